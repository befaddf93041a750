/-! ===== the other side's town ===== -/
/-- what it keeps of a colour, of a stamp -/
def tn_cv (T : tn_T) (l : Nat) : Int32 := if (tn_u T).testBit l then nI (tn_c T l) else -1
def tn_sv (T : tn_T) (l : Nat) : Int32 := if (tn_u T).testBit l then tn_s T l else -1
def MS (σ : qm_St) (T : tn_T) : Prop := qm_rI σ 27 = nI (tn_L T) ∧ qm_rI σ 31 = nI (tn_w T) ∧ ∀ l, l < tn_L T → qm_rF σ 42 l = nI (tn_k T l) ∧ qm_rF σ 43 l = nI (tn_m T l)
def MD (σ : qm_St) (T : tn_T) : Prop := qm_rI σ 28 = tn_n T ∧ ∀ l, l < tn_L T → qm_rF σ 44 l = nI (tn_b T l) ∧ qm_rF σ 45 l = tn_cv T l ∧ qm_rF σ 46 l = tn_sv T l
def MR (σ : qm_St) (T : tn_T) : Prop := MS σ T ∧ MD σ T
section MRS
variable {σ : qm_St} {T : tn_T}
theorem MR.kk (h : MR σ T) {l : Nat} (hl : l < tn_L T) : qm_rF σ 42 l = nI (tn_k T l) := (h.1.2.2 l hl).1
theorem MR.mm (h : MR σ T) {l : Nat} (hl : l < tn_L T) : qm_rF σ 43 l = nI (tn_m T l) := (h.1.2.2 l hl).2
theorem MR.bb (h : MR σ T) {l : Nat} (hl : l < tn_L T) : qm_rF σ 44 l = nI (tn_b T l) := (h.2.2 l hl).1
theorem MR.cc (h : MR σ T) {l : Nat} (hl : l < tn_L T) : qm_rF σ 45 l = tn_cv T l := (h.2.2 l hl).2.1
theorem MR.ss (h : MR σ T) {l : Nat} (hl : l < tn_L T) : qm_rF σ 46 l = tn_sv T l := (h.2.2 l hl).2.2
end MRS
theorem tn_cv_b {T : tn_T} {l : Nat} (h : (tn_u T).testBit l = true) : tn_cv T l = nI (tn_c T l) := by rw [tn_cv, if_pos h]
theorem tn_cv_n {T : tn_T} {l : Nat} (h : (tn_u T).testBit l = false) : tn_cv T l = -1 := by rw [tn_cv, if_neg (by rw [h]; decide)]
theorem nI_ne_m1 {n : Nat} (h : n < 2 ^ 31) : ¬ nI n = -1 := fun e => nI_pos h (by rw [e]; decide)
theorem tn_cv_m1 {T : tn_T} (hT : tn_ok T) {l : Nat} (hl : l < tn_L T) : tn_cv T l = -1 ↔ (tn_u T).testBit l = false := by
  cases hb : (tn_u T).testBit l with
  | true =>
    rw [tn_cv_b hb]
    have := (hT.2.2.2 l hl).2.2.2.2.1 hb
    exact ⟨fun e => absurd e (nI_ne_m1 (by omega)), fun e => by cases e⟩
  | false => exact ⟨fun _ => rfl, fun _ => tn_cv_n hb⟩
theorem MS.sm {σ σ' : qm_St} {T : tn_T} (h : MS σ T) {i1 i2 j1 j2 : Nat} (g : sm σ σ' i1 i2 j1 j2) (hi : i2 ≤ 27 ∨ 32 ≤ i1 ∨ (28 ≤ i1 ∧ i2 ≤ 31)) (hj : j2 ≤ 42 ∨ 44 ≤ j1) : MS σ' T := by
  obtain ⟨h1, h2, h3⟩ := h
  refine ⟨by rw [g.1 _ (by omega)]; exact h1, by rw [g.1 _ (by omega)]; exact h2, fun l hl => ?_⟩
  rw [g.2 _ (by omega), g.2 _ (by omega)]
  exact h3 l hl
theorem MD.sm {σ σ' : qm_St} {T : tn_T} (h : MD σ T) {i1 i2 j1 j2 : Nat} (g : sm σ σ' i1 i2 j1 j2) (hi : i2 ≤ 28 ∨ 29 ≤ i1) (hj : j2 ≤ 44 ∨ 47 ≤ j1) : MD σ' T := by
  obtain ⟨h1, h2⟩ := h
  refine ⟨by rw [g.1 _ (by omega)]; exact h1, fun l hl => ?_⟩
  rw [g.2 _ (by omega), g.2 _ (by omega), g.2 _ (by omega)]
  exact h2 l hl
theorem MR.sm {σ σ' : qm_St} {T : tn_T} (h : MR σ T) {i1 i2 j1 j2 : Nat} (g : sm σ σ' i1 i2 j1 j2) (hi : i2 ≤ 27 ∨ 32 ≤ i1) (hj : j2 ≤ 42 ∨ 47 ≤ j1) : MR σ' T := ⟨h.1.sm g (by omega) (by omega), h.2.sm g (by omega) (by omega)⟩
theorem MR.put {σ : qm_St} {T : tn_T} (hT : tn_ok T) (h : MR σ T) {l c : Nat} (hl : l < tn_L T) : MR (qm_wF (qm_wF (qm_wI σ 28 (tn_n T + 1)) 45 l (nI c)) 46 l (tn_n T + 1)) (tn_put T l c) := by
  obtain ⟨⟨h1, h2, h3⟩, h4, h5⟩ := h
  refine ⟨⟨h1, h2, h3⟩, rfl, fun q hq => ?_⟩
  obtain ⟨g1, g2, g3⟩ := h5 q hq
  have hL := hT.1
  have hbit : (tn_u (tn_put T l c)).testBit q = ((tn_u T).testBit q || decide (l = q)) := by
    show (tn_u T ||| 2 ^ l).testBit q = _
    rw [Nat.testBit_or, Nat.testBit_two_pow]
  simp only [rF_wF, rF_wI]
  refine ⟨by rw [if_neg (by decide), if_neg (by decide)]; exact g1, ?_, ?_⟩
  · rw [if_neg (by decide), if_pos trivial]
    unfold tn_cv
    rw [hbit]
    by_cases e : q = l
    · subst e
      rw [if_pos rfl, if_pos (by simp)]
      exact congrArg nI (show c = if q = q then c else tn_c T q from (if_pos rfl).symm)
    · rw [if_neg e, decide_eq_false (Ne.symm e), Bool.or_false, g2]
      show tn_cv T q = if (tn_u T).testBit q then nI (if q = l then c else tn_c T q) else -1
      rw [if_neg e]; rfl
  · rw [if_pos trivial]
    unfold tn_sv
    rw [hbit]
    by_cases e : q = l
    · subst e
      rw [if_pos rfl, if_pos (by simp)]
      exact (show tn_n T + 1 = if q = q then tn_n T + 1 else tn_s T q from (if_pos rfl).symm)
    · rw [if_neg e, decide_eq_false (Ne.symm e), Bool.or_false, if_neg (by decide), g3]
      show tn_sv T q = if (tn_u T).testBit q then (if q = l then tn_n T + 1 else tn_s T q) else -1
      rw [if_neg e]; rfl
theorem MR.clr {σ : qm_St} {T : tn_T} (hT : tn_ok T) (h : MR σ T) {l : Nat} (hl : l < tn_L T) : MR (qm_wF (qm_wF σ 45 l (-1)) 46 l (-1)) (tn_clr T l) := by
  obtain ⟨⟨h1, h2, h3⟩, h4, h5⟩ := h
  refine ⟨⟨h1, h2, h3⟩, h4, fun q hq => ?_⟩
  obtain ⟨g1, g2, g3⟩ := h5 q hq
  have hbit := tn_clr_bit hT hl (q := q) hq
  simp only [rF_wF]
  refine ⟨by rw [if_neg (by decide), if_neg (by decide)]; exact g1, ?_, ?_⟩
  · rw [if_neg (by decide), if_pos trivial]
    show _ = if (tn_cl (tn_u T) l).testBit q then nI (tn_c T q) else -1
    rw [hbit]
    by_cases e : q = l
    · subst e; simp
    · rw [if_neg e, decide_eq_true e, Bool.and_true, g2]; rfl
  · rw [if_pos trivial]
    show _ = if (tn_cl (tn_u T) l).testBit q then tn_s T q else -1
    rw [hbit]
    by_cases e : q = l
    · subst e; simp
    · rw [if_neg e, decide_eq_true e, Bool.and_true, if_neg (by decide), g3]; rfl
theorem MR.jn {σ : qm_St} {T : tn_T} (h : MR σ T) {x y : Nat} (hxy : x ≠ y) : MR (qm_wF (qm_wF σ 44 x (nI (tn_b T x ||| 2 ^ y))) 44 y (nI (tn_b T y ||| 2 ^ x))) (tn_jn T x y) := by
  obtain ⟨⟨h1, h2, h3⟩, h4, h5⟩ := h
  refine ⟨⟨h1, h2, h3⟩, h4, fun q hq => ?_⟩
  obtain ⟨g1, g2, g3⟩ := h5 q hq
  refine ⟨?_, g2, g3⟩
  rw [tn_jn_b]
  simp only [rF_wF]
  rw [if_pos trivial]
  by_cases e1 : q = x
  · subst e1
    rw [if_neg hxy, if_pos trivial, if_pos rfl, if_pos rfl]
  · by_cases e2 : q = y
    · subst e2
      rw [if_pos rfl, if_neg e1, if_pos rfl]
    · rw [if_neg e2, if_pos trivial, if_neg e1, if_neg e1, if_neg e2]
      exact g1
theorem MR.pt {σ : qm_St} {T : tn_T} (h : MR σ T) {x y : Nat} (hxy : x ≠ y) : MR (qm_wF (qm_wF σ 44 x (nI (tn_cl (tn_b T x) y))) 44 y (nI (tn_cl (tn_b T y) x))) (tn_pt T x y) := by
  obtain ⟨⟨h1, h2, h3⟩, h4, h5⟩ := h
  refine ⟨⟨h1, h2, h3⟩, h4, fun q hq => ?_⟩
  obtain ⟨g1, g2, g3⟩ := h5 q hq
  refine ⟨?_, g2, g3⟩
  rw [tn_pt_b]
  simp only [rF_wF]
  rw [if_pos trivial]
  by_cases e1 : q = x
  · subst e1
    rw [if_neg hxy, if_pos trivial, if_pos rfl, if_pos rfl]
  · by_cases e2 : q = y
    · subst e2
      rw [if_pos rfl, if_neg e1, if_pos rfl]
    · rw [if_neg e2, if_pos trivial, if_neg e1, if_neg e1, if_neg e2]
      exact g1
/-- what is kept beside: of T -/
def KP (σ : qm_St) (T : tn_T) : Prop := qm_rI σ 43 = tn_n T ∧ ∀ l, l < tn_L T → qm_rF σ 59 l = tn_cv T l ∧ qm_rF σ 59 (7 + l) = tn_sv T l ∧ qm_rF σ 59 (14 + l) = nI (tn_b T l)
theorem KP.sm {σ σ' : qm_St} {T : tn_T} (h : KP σ T) {i1 i2 j1 j2 : Nat} (g : sm σ σ' i1 i2 j1 j2) (hi : i2 ≤ 43 ∨ 44 ≤ i1) (hj : j2 ≤ 59 ∨ 60 ≤ j1) : KP σ' T := by
  obtain ⟨h1, h2⟩ := h
  refine ⟨by rw [g.1 _ (by omega)]; exact h1, fun l hl => ?_⟩
  rw [g.2 _ (by omega), g.2 _ (by omega), g.2 _ (by omega)]
  exact h2 l hl
-- bits, one by one
def tn_pk (n k : Nat) : Nat := (List.range k).foldl (fun s k => s + n / 2 ^ k % 2) 0
theorem tn_pk_s (n k : Nat) : tn_pk n (k + 1) = tn_pk n k + n / 2 ^ k % 2 := by rw [tn_pk, List.range_succ, List.foldl_append]; rfl
theorem tn_pk_le (n : Nat) : ∀ k, tn_pk n k ≤ k
  | 0 => Nat.le_refl 0
  | k + 1 => by rw [tn_pk_s]; have := tn_pk_le n k; have := Nat.mod_lt (n / 2 ^ k) (y := 2) (by decide); omega
theorem bit_n {n k : Nat} (hn : n < 2 ^ 31) (hk : k < 32) : (nI n >>> (nI k &&& 31)) &&& 1 = nI (n / 2 ^ k % 2) := by
  rw [nI_shr hn hk, show (1 : Int32) = nI 1 from rfl, nI_and, Nat.and_one_is_mod]
theorem tn_lo_eq {n c : Nat} (h : ∀ j, j < c → n / 2 ^ j % 2 = 1) (hc : c ≤ 11) (hx : c = 11 ∨ n / 2 ^ c % 2 = 0) : tn_lo n = c := by
  unfold tn_lo
  rcases Nat.lt_or_ge c 11 with q | q
  · have e : (List.range 11).find? (fun k => decide (n / 2 ^ k % 2 = 0)) = some c := by
      rw [List.find?_range_eq_some]
      refine ⟨?_, ?_, ?_⟩
      · simpa using (hx.resolve_left (by omega))
      · simpa using q
      · intro j hj
        have := h j hj
        simp [this]
    rw [e]; rfl
  · have hc2 : c = 11 := by omega
    have e : (List.range 11).find? (fun k => decide (n / 2 ^ k % 2 = 0)) = none := by
      rw [List.find?_range_eq_none]
      intro j hj
      have := h j (by omega)
      simp [this]
    rw [e, hc2]; rfl
set_option maxRecDepth 100000 in
theorem tn_hi_log : ∀ n, n < 4096 → tn_hi n = min 11 (if n = 0 then 0 else Nat.log2 n + 1) := by decide +kernel
theorem tn_hi_eq {n d : Nat} (hn : n < 2 ^ d) (hd : d ≤ 12) (hb : d = 0 ∨ n / 2 ^ (d - 1) % 2 = 1) : tn_hi n = min 11 d := by
  have h12 : n < 4096 := Nat.lt_of_lt_of_le hn (Nat.pow_le_pow_right (n := 2) (by omega) hd)
  rw [tn_hi_log n h12]
  rcases hb with rfl | hb
  · have : n = 0 := by simpa using hn
    rw [if_pos this]
  · have h0 : n ≠ 0 := fun e => by rw [e, Nat.zero_div] at hb; cases hb
    rw [if_neg h0]
    have hd0 : d ≠ 0 := fun e => by subst e; exact h0 (by simpa using hn)
    have hge : 2 ^ (d - 1) ≤ n := by
      rcases Nat.lt_or_ge n (2 ^ (d - 1)) with q | q
      · rw [Nat.div_eq_of_lt q] at hb; cases hb
      · exact q
    have : Nat.log2 n = d - 1 := by
      rw [Nat.log2_eq_iff h0]
      exact ⟨hge, by rw [show d - 1 + 1 = d by omega]; exact hn⟩
    rw [this, show d - 1 + 1 = d by omega]
