/-! ===== lanes, lots that come ===== -/
/-- two lots come to be beside each other -/
def tn_jn (T : tn_T) (x y : Nat) : tn_T := (tn_L T, tn_w T, tn_n T, tn_u T, tn_k T, tn_m T, fun q => if q = x then tn_b T x ||| 2 ^ y else if q = y then tn_b T y ||| 2 ^ x else tn_b T q, tn_c T, tn_s T)
/-- they aren't any more -/
def tn_pt (T : tn_T) (x y : Nat) : tn_T := (tn_L T, tn_w T, tn_n T, tn_u T, tn_k T, tn_m T, fun q => if q = x then tn_cl (tn_b T x) y else if q = y then tn_cl (tn_b T y) x else tn_b T q, tn_c T, tn_s T)
theorem tn_jn_b (T : tn_T) (x y q : Nat) : tn_b (tn_jn T x y) q = if q = x then tn_b T x ||| 2 ^ y else if q = y then tn_b T y ||| 2 ^ x else tn_b T q := rfl
theorem tn_pt_b (T : tn_T) (x y q : Nat) : tn_b (tn_pt T x y) q = if q = x then tn_cl (tn_b T x) y else if q = y then tn_cl (tn_b T y) x else tn_b T q := rfl
theorem tb_2 (a b : Nat) : (2 ^ a).testBit b = decide (a = b) := Nat.testBit_two_pow
theorem tn_jn_bit {T : tn_T} {x y : Nat} (hxy : x ≠ y) (q o : Nat) : (tn_b (tn_jn T x y) q).testBit o = ((tn_b T q).testBit o || (decide (q = x) && decide (o = y)) || (decide (q = y) && decide (o = x))) := by
  rw [tn_jn_b]
  by_cases e1 : q = x
  · subst e1
    rw [if_pos rfl, Nat.testBit_or, tb_2]
    simp [hxy, eq_comm]
  · rw [if_neg e1]
    by_cases e2 : q = y
    · subst e2
      rw [if_pos rfl, Nat.testBit_or, tb_2]
      simp [e1, eq_comm]
    · rw [if_neg e2]; simp [e1, e2]
theorem tn_jn_ok {T : tn_T} (hT : tn_ok T) {x y : Nat} (hx : x < tn_L T) (hy : y < tn_L T) (hxy : x ≠ y) : tn_ok (tn_jn T x y) := by
  obtain ⟨h1, h2, h3, h4⟩ := hT
  refine ⟨h1, h2, h3, fun q hq => ?_⟩
  obtain ⟨g1, g2, g3, g4, g5, g6⟩ := h4 q hq
  refine ⟨g1, g2, ?_, ?_, g5, fun o ho => ?_⟩
  · show tn_b (tn_jn T x y) q < _
    rw [tn_jn_b]
    split
    · exact Nat.or_lt_two_pow (h4 x hx).2.2.1 (Nat.pow_lt_pow_right (by omega) hy)
    · split
      · exact Nat.or_lt_two_pow (h4 y hy).2.2.1 (Nat.pow_lt_pow_right (by omega) hx)
      · exact g3
  · rw [tn_jn_bit hxy, g4]
    by_cases e1 : q = x
    · subst e1; simp [hxy]
    · by_cases e2 : q = y
      · subst e2; simp [e1]
      · simp [e1, e2]
  · rw [tn_jn_bit hxy, tn_jn_bit hxy, g6 o ho]
    by_cases e1 : q = x <;> by_cases e2 : o = y <;> by_cases e3 : q = y <;> by_cases e4 : o = x <;> simp [e1, e2, e3, e4]
theorem tn_pt_bit {T : tn_T} (hT : tn_ok T) {x y : Nat} (hx : x < tn_L T) (hy : y < tn_L T) (hxy : x ≠ y) {q o : Nat} (hq : q < tn_L T) (ho : o < tn_L T) : (tn_b (tn_pt T x y) q).testBit o = ((tn_b T q).testBit o && !(decide (q = x) && decide (o = y)) && !(decide (q = y) && decide (o = x))) := by
  have hL := hT.1
  have cl : ∀ u z, z < tn_L T → (tn_cl u z).testBit o = (u.testBit o && decide (o ≠ z)) := fun u z hz => by
    rw [tn_cl, Nat.testBit_and, tn_cl_bit z (by omega) o (by omega)]
  rw [tn_pt_b]
  by_cases e1 : q = x
  · subst e1
    rw [if_pos rfl, cl _ _ hy]
    simp [hxy]
  · rw [if_neg e1]
    by_cases e2 : q = y
    · subst e2
      rw [if_pos rfl, cl _ _ hx]
      simp [e1]
    · rw [if_neg e2]; simp [e1, e2]
theorem tn_pt_ok {T : tn_T} (hT : tn_ok T) {x y : Nat} (hx : x < tn_L T) (hy : y < tn_L T) (hxy : x ≠ y) : tn_ok (tn_pt T x y) := by
  have hT0 := hT
  obtain ⟨h1, h2, h3, h4⟩ := hT
  refine ⟨h1, h2, h3, fun q hq => ?_⟩
  obtain ⟨g1, g2, g3, g4, g5, g6⟩ := h4 q hq
  refine ⟨g1, g2, ?_, ?_, g5, fun o ho => ?_⟩
  · show tn_b (tn_pt T x y) q < _
    rw [tn_pt_b]
    split
    · exact Nat.lt_of_le_of_lt (tn_cl_le _ _) (h4 x hx).2.2.1
    · split
      · exact Nat.lt_of_le_of_lt (tn_cl_le _ _) (h4 y hy).2.2.1
      · exact g3
  · rw [tn_pt_bit hT0 hx hy hxy hq hq, g4]; rfl
  · rw [tn_pt_bit hT0 hx hy hxy hq ho, tn_pt_bit hT0 hx hy hxy ho hq, g6 o ho]
    by_cases e1 : q = x <;> by_cases e2 : o = y <;> by_cases e3 : q = y <;> by_cases e4 : o = x <;> simp [e1, e2, e3, e4]
theorem TR.jn {σ : qm_St} {i j : Nat} {T : tn_T} (h : TR σ i j T) {x y : Nat} (hxy : x ≠ y) : TR (qm_wF (qm_wF σ (j + 2) x (nI (tn_b T x ||| 2 ^ y))) (j + 2) y (nI (tn_b T y ||| 2 ^ x))) i j (tn_jn T x y) := by
  obtain ⟨h1, h2, h3, h4, h5⟩ := h
  refine ⟨h1, h2, h3, h4, fun q hq => ?_⟩
  obtain ⟨g1, g2, g3, g4⟩ := h5 q hq
  have n1 : ¬ (j = j + 2) := by omega
  have n2 : ¬ (j + 1 = j + 2) := by omega
  have n3 : ¬ (j + 3 = j + 2) := by omega
  have n4 : ¬ (j + 4 = j + 2) := by omega
  simp only [rF_wF, n1, n2, n3, n4, if_false]
  refine ⟨g1, g2, ?_, g4⟩
  rw [tn_jn_b, if_pos trivial]
  by_cases e1 : q = x
  · subst e1
    rw [if_neg hxy, if_pos trivial, if_pos rfl, if_pos rfl]
  · by_cases e2 : q = y
    · subst e2
      rw [if_pos rfl, if_neg e1, if_pos rfl]
    · rw [if_neg e2, if_pos trivial, if_neg e1, if_neg e1, if_neg e2]
      exact g3
theorem TR.pt {σ : qm_St} {i j : Nat} {T : tn_T} (h : TR σ i j T) {x y : Nat} (hxy : x ≠ y) : TR (qm_wF (qm_wF σ (j + 2) x (nI (tn_cl (tn_b T x) y))) (j + 2) y (nI (tn_cl (tn_b T y) x))) i j (tn_pt T x y) := by
  obtain ⟨h1, h2, h3, h4, h5⟩ := h
  refine ⟨h1, h2, h3, h4, fun q hq => ?_⟩
  obtain ⟨g1, g2, g3, g4⟩ := h5 q hq
  have n1 : ¬ (j = j + 2) := by omega
  have n2 : ¬ (j + 1 = j + 2) := by omega
  have n3 : ¬ (j + 3 = j + 2) := by omega
  have n4 : ¬ (j + 4 = j + 2) := by omega
  simp only [rF_wF, n1, n2, n3, n4, if_false]
  refine ⟨g1, g2, ?_, g4⟩
  rw [tn_pt_b, if_pos trivial]
  by_cases e1 : q = x
  · subst e1
    rw [if_neg hxy, if_pos trivial, if_pos rfl, if_pos rfl]
  · by_cases e2 : q = y
    · subst e2
      rw [if_pos rfl, if_neg e1, if_pos rfl]
    · rw [if_neg e2, if_pos trivial, if_neg e1, if_neg e1, if_neg e2]
      exact g3
/-- a lot comes, beside those of oth that are below i -/
def tn_adk (T : tn_T) (k m oth i : Nat) : tn_T := (tn_L T + 1, tn_w T, tn_n T, tn_u T, fun q => if q = tn_L T then k else tn_k T q, fun q => if q = tn_L T then m else tn_m T q, fun q => if q = tn_L T then oth % 2 ^ i else if q < i ∧ oth.testBit q = true then tn_b T q ||| 2 ^ tn_L T else tn_b T q, tn_c T, tn_s T)
def tn_add (T : tn_T) (k m oth : Nat) : tn_T := tn_adk T k m oth (tn_L T)
theorem mod_2 (n i : Nat) : n % 2 ^ (i + 1) = if n.testBit i then n % 2 ^ i ||| 2 ^ i else n % 2 ^ i := by
  apply Nat.eq_of_testBit_eq
  intro j
  rw [Nat.testBit_mod_two_pow]
  by_cases hb : n.testBit i = true
  · rw [if_pos hb, Nat.testBit_or, Nat.testBit_mod_two_pow, tb_2]
    by_cases e : i = j
    · subst e; simp [hb]
    · rcases Nat.lt_or_ge j i with q | q
      · simp [q, e, Nat.lt_succ_of_lt q]
      · simp [e, show ¬ j < i by omega, show ¬ j < i + 1 by omega]
  · rw [if_neg hb, Nat.testBit_mod_two_pow]
    by_cases e : i = j
    · subst e; simp [hb]
    · rcases Nat.lt_or_ge j i with q | q
      · simp [q, Nat.lt_succ_of_lt q]
      · simp [show ¬ j < i by omega, show ¬ j < i + 1 by omega]
def tn_sb (T : tn_T) (f : Nat → Nat) : tn_T := (tn_L T, tn_w T, tn_n T, tn_u T, tn_k T, tn_m T, f, tn_c T, tn_s T)
theorem tn_adk_b (T : tn_T) (k m oth i q : Nat) : tn_b (tn_adk T k m oth i) q = if q = tn_L T then oth % 2 ^ i else if q < i ∧ oth.testBit q = true then tn_b T q ||| 2 ^ tn_L T else tn_b T q := rfl
theorem tn_adk_s {T : tn_T} {k m oth i : Nat} (hi : i < tn_L T) (hb : oth.testBit i = true) : tn_jn (tn_adk T k m oth i) (tn_L T) i = tn_adk T k m oth (i + 1) := by
  refine congrArg (tn_sb (tn_adk T k m oth 0)) (funext fun q => ?_)
  show tn_b (tn_jn (tn_adk T k m oth i) (tn_L T) i) q = tn_b (tn_adk T k m oth (i + 1)) q
  rw [tn_jn_b, tn_adk_b, tn_adk_b, tn_adk_b, tn_adk_b]
  by_cases e1 : q = tn_L T
  · rw [if_pos e1, if_pos rfl, if_pos e1, mod_2 oth i, if_pos hb]
  · by_cases e2 : q = i
    · subst e2
      rw [if_neg e1, if_pos rfl, if_neg e1, if_neg (fun z => absurd z.1 (Nat.lt_irrefl q)), if_neg e1, if_pos ⟨Nat.lt_succ_self q, hb⟩]
    · have : (q < i + 1 ∧ oth.testBit q = true) ↔ (q < i ∧ oth.testBit q = true) := ⟨fun z => ⟨by omega, z.2⟩, fun z => ⟨by omega, z.2⟩⟩
      rw [if_neg e1, if_neg e2, if_neg e1, if_neg e1]
      simp only [this]
theorem tn_adk_n {T : tn_T} {k m oth i : Nat} (hb : oth.testBit i = false) : tn_adk T k m oth (i + 1) = tn_adk T k m oth i := by
  refine congrArg (tn_sb (tn_adk T k m oth 0)) (funext fun q => ?_)
  show tn_b (tn_adk T k m oth (i + 1)) q = tn_b (tn_adk T k m oth i) q
  rw [tn_adk_b, tn_adk_b, mod_2 oth i, if_neg (c := oth.testBit i = true) (by rw [hb]; decide)]
  by_cases e2 : q = i
  · subst e2; simp [hb]
  · have : (q < i + 1 ∧ oth.testBit q = true) ↔ (q < i ∧ oth.testBit q = true) := ⟨fun z => ⟨by omega, z.2⟩, fun z => ⟨by omega, z.2⟩⟩
    simp only [this]
theorem tn_adk_ok {T : tn_T} (hT : tn_ok T) (h7 : tn_L T < 7) {k m oth : Nat} (hk : k ≤ 5) (hm : m ≤ 9) : ∀ i, i ≤ tn_L T → tn_ok (tn_adk T k m oth i)
  | 0, _ => by
    obtain ⟨h1, h2, h3, h4⟩ := hT
    have hz : ∀ q, tn_b (tn_adk T k m oth 0) q = if q = tn_L T then 0 else tn_b T q := fun q => by
      show (if q = tn_L T then oth % 2 ^ 0 else if q < 0 ∧ _ then _ else tn_b T q) = _
      rw [Nat.pow_zero, Nat.mod_one, if_neg (c := q < 0 ∧ _) (by omega)]
    refine ⟨by show tn_L T + 1 ≤ 7; omega, h2, by show tn_u T < 2 ^ (tn_L T + 1); rw [Nat.pow_succ]; omega, fun q hq => ?_⟩
    have hq' : q < tn_L T + 1 := hq
    rw [hz]
    by_cases e : q = tn_L T
    · subst e
      refine ⟨by show (if tn_L T = tn_L T then k else _) ≤ 5; rw [if_pos rfl]; exact hk, by show (if tn_L T = tn_L T then m else _) ≤ 9; rw [if_pos rfl]; exact hm, ?_, ?_, ?_, ?_⟩
      · rw [if_pos rfl]; exact Nat.two_pow_pos _
      · rw [if_pos rfl]; exact Nat.zero_testBit _
      · intro hb
        have hb' : (tn_u T).testBit (tn_L T) = true := hb
        rw [Nat.testBit_lt_two_pow h3] at hb'
        cases hb'
      · intro o ho
        rw [if_pos rfl, Nat.zero_testBit, hz]
        by_cases eo : o = tn_L T
        · rw [if_pos eo, Nat.zero_testBit]
        · have ho' : o < tn_L T + 1 := ho
          rw [if_neg eo, Nat.testBit_lt_two_pow (h4 o (by omega)).2.2.1]
    · obtain ⟨g1, g2, g3, g4, g5, g6⟩ := h4 q (by omega)
      rw [if_neg e]
      refine ⟨by show (if q = tn_L T then k else tn_k T q) ≤ 5; rw [if_neg e]; exact g1, by show (if q = tn_L T then m else tn_m T q) ≤ 9; rw [if_neg e]; exact g2, by show _ < 2 ^ (tn_L T + 1); rw [Nat.pow_succ]; omega, g4, g5, fun o ho => ?_⟩
      have ho' : o < tn_L T + 1 := ho
      rw [hz]
      by_cases eo : o = tn_L T
      · subst eo
        rw [if_pos rfl, Nat.zero_testBit, Nat.testBit_lt_two_pow g3]
      · rw [if_neg eo]; exact g6 o (by omega)
  | i + 1, hi => by
    have ih := tn_adk_ok hT h7 (oth := oth) hk hm i (by omega)
    by_cases hb : oth.testBit i = true
    · rw [← tn_adk_s (by omega) hb]
      exact tn_jn_ok ih (by show tn_L T < tn_L T + 1; omega) (by show i < tn_L T + 1; omega) (by omega)
    · rw [tn_adk_n (by simpa using hb)]
      exact ih
theorem tn_add_ok {T : tn_T} (hT : tn_ok T) (h7 : tn_L T < 7) {k m oth : Nat} (hk : k ≤ 5) (hm : m ≤ 9) : tn_ok (tn_add T k m oth) := tn_adk_ok hT h7 hk hm _ (Nat.le_refl _)
theorem TR.ad0 {σ : qm_St} {i j : Nat} {T : tn_T} (hT : tn_ok T) (h : TR σ i j T) (k m oth : Nat) : TR (qm_wF (qm_wF (qm_wF (qm_wI σ i (nI (tn_L T + 1))) j (tn_L T) (nI k)) (j + 1) (tn_L T) (nI m)) (j + 2) (tn_L T) 0) i j (tn_adk T k m oth 0) := by
  obtain ⟨h1, h2, h3, h4, h5⟩ := h
  refine ⟨?_, ?_, ?_, ?_, fun q hq => ?_⟩
  · simp only [rI_wF, rI_wI]; rw [if_pos trivial]; rfl
  · simp only [rI_wF, rI_wI]; rw [if_neg (by omega)]; exact h2
  · simp only [rI_wF, rI_wI]; rw [if_neg (by omega)]; exact h3
  · simp only [rI_wF, rI_wI]; rw [if_neg (by omega)]; exact h4
  · have hq' : q < tn_L T + 1 := hq
    have n1 : ¬ (j = j + 2) := by omega
    have n2 : ¬ (j + 1 = j + 2) := by omega
    have n3 : ¬ (j + 3 = j + 2) := by omega
    have n4 : ¬ (j + 4 = j + 2) := by omega
    have n5 : ¬ (j = j + 1) := by omega
    have n6 : ¬ (j + 2 = j + 1) := by omega
    have n7 : ¬ (j + 3 = j + 1) := by omega
    have n8 : ¬ (j + 4 = j + 1) := by omega
    have n9 : ¬ (j + 1 = j) := by omega
    have n10 : ¬ (j + 2 = j) := by omega
    have n11 : ¬ (j + 3 = j) := by omega
    have n12 : ¬ (j + 4 = j) := by omega
    simp only [rF_wF, rF_wI, n1, n2, n3, n4, n5, n6, n7, n8, n9, n10, n11, n12, if_false, if_true]
    have hk : tn_k (tn_adk T k m oth 0) q = if q = tn_L T then k else tn_k T q := rfl
    have hm : tn_m (tn_adk T k m oth 0) q = if q = tn_L T then m else tn_m T q := rfl
    have hz : tn_b (tn_adk T k m oth 0) q = if q = tn_L T then 0 else tn_b T q := by
      show (if q = tn_L T then oth % 2 ^ 0 else if q < 0 ∧ _ then _ else tn_b T q) = _
      rw [Nat.pow_zero, Nat.mod_one, if_neg (c := q < 0 ∧ _) (by omega)]
    rw [hk, hm, hz]
    by_cases e : q = tn_L T
    · subst e
      simp only [if_true]
      refine ⟨trivial, trivial, rfl, fun hb => ?_⟩
      have hb' : (tn_u T).testBit (tn_L T) = true := hb
      rw [Nat.testBit_lt_two_pow hT.2.2.1] at hb'
      cases hb'
    · simp only [e, if_false]
      exact h5 q (by omega)
