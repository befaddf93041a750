/-! ===== towns that change ===== -/
theorem rI_wI (σ : qm_St) (s t : Nat) (v : Int32) : qm_rI (qm_wI σ s v) t = if t = s then v else qm_rI σ t := rfl
theorem rI_wF (σ : qm_St) (j i t : Nat) (v : Int32) : qm_rI (qm_wF σ j i v) t = qm_rI σ t := rfl
theorem rI_wR (σ : qm_St) (j t : Nat) (g : Nat → Int32) : qm_rI (qm_wR σ j g) t = qm_rI σ t := rfl
theorem rF_wI (σ : qm_St) (s : Nat) (v : Int32) (j i : Nat) : qm_rF (qm_wI σ s v) j i = qm_rF σ j i := rfl
theorem rF_wF (σ : qm_St) (j i : Nat) (v : Int32) (j' i' : Nat) : qm_rF (qm_wF σ j i v) j' i' = if j' = j then (if i' = i then v else qm_rF σ j i') else qm_rF σ j' i' := by
  show (if j' = j then upd (σ.2 j) i v else σ.2 j') i' = _
  split <;> rfl
theorem rF_wR (σ : qm_St) (j : Nat) (g : Nat → Int32) (j' i' : Nat) : qm_rF (qm_wR σ j g) j' i' = if j' = j then g i' else qm_rF σ j' i' := by
  show (if j' = j then g else σ.2 j') i' = _
  split <;> rfl
/-- but the numbers from i1 to i2 and the rows from j1 to j2 all stays -/
def sm (σ σ' : qm_St) (i1 i2 j1 j2 : Nat) : Prop := (∀ s, (s < i1 ∨ i2 ≤ s) → qm_rI σ' s = qm_rI σ s) ∧ ∀ r, (r < j1 ∨ j2 ≤ r) → ∀ k, qm_rF σ' r k = qm_rF σ r k
theorem sm.rf (σ : qm_St) (i1 i2 j1 j2 : Nat) : sm σ σ i1 i2 j1 j2 := ⟨fun _ _ => rfl, fun _ _ _ => rfl⟩
theorem sm.tr {a b c : qm_St} {i1 i2 j1 j2 : Nat} (h : sm a b i1 i2 j1 j2) (g : sm b c i1 i2 j1 j2) : sm a c i1 i2 j1 j2 := ⟨fun s hs => (g.1 s hs).trans (h.1 s hs), fun r hr k => (g.2 r hr k).trans (h.2 r hr k)⟩
theorem sm.wid {a b : qm_St} {i1 i2 j1 j2 i3 i4 j3 j4 : Nat} (h : sm a b i1 i2 j1 j2) (hi : i3 ≤ i1 ∧ i2 ≤ i4) (hj : j3 ≤ j1 ∧ j2 ≤ j4) : sm a b i3 i4 j3 j4 := ⟨fun s hs => h.1 s (by omega), fun r hr k => h.2 r (by omega) k⟩
theorem sm.wI {a b : qm_St} {i1 i2 j1 j2 : Nat} (h : sm a b i1 i2 j1 j2) {s : Nat} (v : Int32) (hs : i1 ≤ s ∧ s < i2) : sm a (qm_wI b s v) i1 i2 j1 j2 := ⟨fun t ht => by rw [rI_wI, if_neg (by omega)]; exact h.1 t ht, fun r hr k => h.2 r hr k⟩
theorem sm.wF {a b : qm_St} {i1 i2 j1 j2 : Nat} (h : sm a b i1 i2 j1 j2) {j i : Nat} (v : Int32) (hj : j1 ≤ j ∧ j < j2) : sm a (qm_wF b j i v) i1 i2 j1 j2 := ⟨fun t ht => h.1 t ht, fun r hr k => by rw [rF_wF, if_neg (by omega)]; exact h.2 r hr k⟩
theorem sm.wR {a b : qm_St} {i1 i2 j1 j2 : Nat} (h : sm a b i1 i2 j1 j2) {j : Nat} (g : Nat → Int32) (hj : j1 ≤ j ∧ j < j2) : sm a (qm_wR b j g) i1 i2 j1 j2 := ⟨fun t ht => h.1 t ht, fun r hr k => by rw [rF_wR, if_neg (by omega)]; exact h.2 r hr k⟩
theorem TR.sm {σ σ' : qm_St} {i j : Nat} {T : tn_T} (h : TR σ i j T) {i1 i2 j1 j2 : Nat} (g : sm σ σ' i1 i2 j1 j2) (hi : i + 4 ≤ i1 ∨ i2 ≤ i) (hj : j + 5 ≤ j1 ∨ j2 ≤ j) : TR σ' i j T := by
  obtain ⟨h1, h2, h3, h4, h5⟩ := h
  refine ⟨by rw [g.1 _ (by omega)]; exact h1, by rw [g.1 _ (by omega)]; exact h2, by rw [g.1 _ (by omega)]; exact h3, by rw [g.1 _ (by omega)]; exact h4, fun l hl => ?_⟩
  rw [g.2 _ (by omega), g.2 _ (by omega), g.2 _ (by omega), g.2 _ (by omega), g.2 _ (by omega)]
  exact h5 l hl
/-- a house of colour c is put on lot l -/
def tn_put (T : tn_T) (l c : Nat) : tn_T := (tn_L T, tn_w T, tn_n T + 1, tn_u T ||| 2 ^ l, tn_k T, tn_m T, tn_b T, fun q => if q = l then c else tn_c T q, fun q => if q = l then tn_n T + 1 else tn_s T q)
theorem tn_put_ok {T : tn_T} (hT : tn_ok T) {l c : Nat} (hl : l < tn_L T) (hc : c ≤ 11) : tn_ok (tn_put T l c) := by
  obtain ⟨h1, h2, h3, h4⟩ := hT
  refine ⟨h1, h2, Nat.or_lt_two_pow h3 (Nat.pow_lt_pow_right (by omega) hl), fun q hq => ?_⟩
  obtain ⟨g1, g2, g3, g4, g5, g6⟩ := h4 q hq
  refine ⟨g1, g2, g3, g4, fun hb => ?_, g6⟩
  show (if q = l then c else tn_c T q) ≤ 11
  split
  · exact hc
  · rename_i hne
    refine g5 ?_
    have hb' : (tn_u T ||| 2 ^ l).testBit q = true := hb
    rw [Nat.testBit_or, Nat.testBit_two_pow_of_ne (Ne.symm hne), Bool.or_false] at hb'
    exact hb'
theorem TR.put {σ : qm_St} {i j : Nat} {T : tn_T} (h : TR σ i j T) {l c : Nat} (hl : l < tn_L T) :
    TR (qm_wI (qm_wF (qm_wF (qm_wI σ (i + 2) (tn_n T + 1)) (j + 4) l (tn_n T + 1)) (j + 3) l (nI c)) (i + 3) (nI (tn_u T ||| 2 ^ l))) i j (tn_put T l c) := by
  obtain ⟨h1, h2, h3, h4, h5⟩ := h
  refine ⟨?_, ?_, ?_, ?_, fun q hq => ?_⟩
  · simp only [rI_wI, rI_wF]; rw [if_neg (by omega), if_neg (by omega)]; exact h1
  · simp only [rI_wI, rI_wF]; rw [if_neg (by omega), if_neg (by omega)]; exact h2
  · simp only [rI_wI, rI_wF]; rw [if_neg (by omega), if_pos trivial]; rfl
  · simp only [rI_wI]; rw [if_pos trivial]; rfl
  · obtain ⟨g1, g2, g3, g4⟩ := h5 q hq
    simp only [rF_wI, rF_wF]
    refine ⟨by rw [if_neg (by omega), if_neg (by omega)]; exact g1, by rw [if_neg (by omega), if_neg (by omega)]; exact g2, by rw [if_neg (by omega), if_neg (by omega)]; exact g3, fun hb => ?_⟩
    have hb' : (tn_u T ||| 2 ^ l).testBit q = true := hb
    have n1 : ¬ (j + 3 = j + 4) := by omega
    have n2 : ¬ (j + 4 = j + 3) := by omega
    by_cases e : q = l
    · subst e
      simp only [n1, n2, if_true, if_false]
      exact ⟨congrArg nI (show c = if q = q then c else tn_c T q from (if_pos rfl).symm), (show tn_n T + 1 = if q = q then tn_n T + 1 else tn_s T q from (if_pos rfl).symm)⟩
    · rw [Nat.testBit_or, Nat.testBit_two_pow_of_ne (Ne.symm e), Bool.or_false] at hb'
      simp only [n1, n2, e, if_true, if_false]
      exact ⟨by rw [(g4 hb').1]; exact congrArg nI (show tn_c T q = if q = l then c else tn_c T q from (if_neg e).symm), by rw [(g4 hb').2]; exact (show tn_s T q = if q = l then tn_n T + 1 else tn_s T q from (if_neg e).symm)⟩
/-- lot l is cleared -/
def tn_cl (u l : Nat) : Nat := u &&& (127 ^^^ 2 ^ l)
theorem tn_cl_bit : ∀ l, l < 7 → ∀ q, q < 7 → (127 ^^^ 2 ^ l).testBit q = decide (q ≠ l) := by decide +kernel
set_option maxRecDepth 100000 in
theorem tn_cl_dec : ∀ l, l < 7 → ∀ u, u < 128 → nI u &&& (((1 : Int32) <<< (nI l &&& 31)) ^^^ (-1)) = nI (tn_cl u l) := by decide +kernel
def tn_clr (T : tn_T) (l : Nat) : tn_T := (tn_L T, tn_w T, tn_n T, tn_cl (tn_u T) l, tn_k T, tn_m T, tn_b T, tn_c T, tn_s T)
theorem tn_cl_le (u l : Nat) : tn_cl u l ≤ u := Nat.and_le_left
theorem tn_clr_bit {T : tn_T} (hT : tn_ok T) {l q : Nat} (hl : l < tn_L T) (hq : q < tn_L T) : (tn_cl (tn_u T) l).testBit q = ((tn_u T).testBit q && decide (q ≠ l)) := by
  rw [tn_cl, Nat.testBit_and, tn_cl_bit l (by have := hT.1; omega) q (by have := hT.1; omega)]
theorem tn_clr_ok {T : tn_T} (hT : tn_ok T) {l : Nat} (hl : l < tn_L T) : tn_ok (tn_clr T l) := by
  have hT0 := hT
  obtain ⟨h1, h2, h3, h4⟩ := hT
  refine ⟨h1, h2, Nat.lt_of_le_of_lt (tn_cl_le _ _) h3, fun q hq => ?_⟩
  obtain ⟨g1, g2, g3, g4, g5, g6⟩ := h4 q hq
  refine ⟨g1, g2, g3, g4, fun hb => g5 ?_, g6⟩
  have hb' : (tn_cl (tn_u T) l).testBit q = true := hb
  rw [tn_clr_bit hT0 hl hq, Bool.and_eq_true] at hb'
  exact hb'.1
theorem TR.clr {σ : qm_St} {i j : Nat} {T : tn_T} (hT : tn_ok T) (h : TR σ i j T) {l : Nat} (hl : l < tn_L T) : TR (qm_wI σ (i + 3) (nI (tn_cl (tn_u T) l))) i j (tn_clr T l) := by
  obtain ⟨h1, h2, h3, h4, h5⟩ := h
  refine ⟨?_, ?_, ?_, ?_, fun q hq => ?_⟩
  · rw [rI_wI, if_neg (by omega)]; exact h1
  · rw [rI_wI, if_neg (by omega)]; exact h2
  · rw [rI_wI, if_neg (by omega)]; exact h3
  · rw [rI_wI, if_pos rfl]; rfl
  · obtain ⟨g1, g2, g3, g4⟩ := h5 q hq
    refine ⟨g1, g2, g3, fun hb => g4 ?_⟩
    have hb' : (tn_cl (tn_u T) l).testBit q = true := hb
    rw [tn_clr_bit hT hl hq, Bool.and_eq_true] at hb'
    exact hb'.1
/-- one town becomes another -/
def tn_cp (σ : qm_St) (i j i0 j0 : Nat) : qm_St :=
  qm_wR (qm_wR (qm_wR (qm_wR (qm_wR (qm_wI (qm_wI (qm_wI (qm_wI σ i (qm_rI σ i0)) (i + 1) (qm_rI σ (i0 + 1))) (i + 2) (qm_rI σ (i0 + 2))) (i + 3) (qm_rI σ (i0 + 3)))
    j (va_cpy (σ.2 j0) (σ.2 j) 0 0 7)) (j + 1) (va_cpy (σ.2 (j0 + 1)) (σ.2 (j + 1)) 0 0 7)) (j + 2) (va_cpy (σ.2 (j0 + 2)) (σ.2 (j + 2)) 0 0 7)) (j + 3) (va_cpy (σ.2 (j0 + 3)) (σ.2 (j + 3)) 0 0 7)) (j + 4) (va_cpy (σ.2 (j0 + 4)) (σ.2 (j + 4)) 0 0 7)
theorem tn_cp_sm (σ : qm_St) (i j i0 j0 : Nat) : sm σ (tn_cp σ i j i0 j0) i (i + 4) j (j + 5) :=
  ((((((((((sm.rf σ i (i + 4) j (j + 5)).wI _ (by omega)).wI _ (by omega)).wI _ (by omega)).wI _ (by omega)).wR _ (by omega)).wR _ (by omega)).wR _ (by omega)).wR _ (by omega)).wR _ (by omega))
theorem TR.cp {σ : qm_St} {i j i0 j0 : Nat} {T : tn_T} (hT : tn_ok T) (h : TR σ i0 j0 T) : TR (tn_cp σ i j i0 j0) i j T := by
  obtain ⟨h1, h2, h3, h4, h5⟩ := h
  have hL := hT.1
  have c7 : ∀ (f g : Nat → Int32) (l : Nat), l < 7 → va_cpy f g 0 0 7 l = f l := fun f g l hl => by
    rw [pk_cpy_in (Nat.zero_le _) (by omega)]; congr 1; omega
  refine ⟨?_, ?_, ?_, ?_, fun q hq => ?_⟩
  · unfold tn_cp; simp only [rI_wI, rI_wR]; rw [if_neg (by omega), if_neg (by omega), if_neg (by omega), if_pos trivial]; exact h1
  · unfold tn_cp; simp only [rI_wI, rI_wR]; rw [if_neg (by omega), if_neg (by omega), if_pos trivial]; exact h2
  · unfold tn_cp; simp only [rI_wI, rI_wR]; rw [if_neg (by omega), if_pos trivial]; exact h3
  · unfold tn_cp; simp only [rI_wI, rI_wR]; rw [if_pos trivial]; exact h4
  · obtain ⟨g1, g2, g3, g4⟩ := h5 q hq
    unfold tn_cp
    simp only [rF_wI, rF_wR]
    refine ⟨?_, ?_, ?_, fun hb => ⟨?_, ?_⟩⟩
    · rw [if_neg (by omega), if_neg (by omega), if_neg (by omega), if_neg (by omega), if_pos trivial, c7 _ _ _ (by omega)]; exact g1
    · rw [if_neg (by omega), if_neg (by omega), if_neg (by omega), if_pos trivial, c7 _ _ _ (by omega)]; exact g2
    · rw [if_neg (by omega), if_neg (by omega), if_pos trivial, c7 _ _ _ (by omega)]; exact g3
    · rw [if_neg (by omega), if_pos trivial, c7 _ _ _ (by omega)]; exact (g4 hb).1
    · rw [if_pos trivial, c7 _ _ _ (by omega)]; exact (g4 hb).2
