theorem sm.em {σ σ' : qm_St} {a j1 j2 : Nat} (h : sm σ σ' a a j1 j2) (b : Nat) : sm σ σ' b b j1 j2 := ⟨fun s _ => h.1 s (by omega), h.2⟩
/-- a place within, a stretch within -/
def gs_hc (n : Nat) (i : Int32) : Bool := decide (0 ≤ i ∧ i < nI n)
def gs_hr (m : Nat) (i n : Int32) : Bool := decide (0 ≤ i ∧ i ≤ nI m ∧ n ≤ nI m - i)
theorem gs_hc_of {n : Nat} (hn : n < 2 ^ 31) {i : Int32} (h : gs_hc n i = true) : ∃ j, j < n ∧ i = nI j := by
  obtain ⟨h1, h2⟩ := of_decide_eq_true h
  obtain ⟨j, hj, rfl⟩ := nI_of (Int32.not_lt.mpr h1)
  exact ⟨j, (nI_ltI hj hn).mp h2, rfl⟩
theorem gs_hc_nI {n j : Nat} (hj : j < n) (hn : n < 2 ^ 31) : gs_hc n (nI j) = true := decide_eq_true ⟨nI_pos' (by omega), nI_lt hj hn⟩
theorem gs_hc_in {n : Nat} (hn : n < 2 ^ 30) (i : Int32) : tn_in i 0 (nI n - 1) = gs_hc n i := by
  refine decide_eq_decide.mpr ?_
  have e1 := pk_sub_toInt (a := n) (b := 1) hn (by decide)
  have e2 : (nI n).toInt = (n : Int) := nI_toInt (by omega)
  have e3 : nI n - 1 = nI n - nI 1 := rfl
  rw [e3]
  simp only [Int32.le_iff_toInt_le, Int32.lt_iff_toInt_lt, e1, e2]
  omega
theorem gs_hr_of {m : Nat} (hm : m < 2 ^ 30) {i n : Int32} (h : gs_hr m i n = true) (hn : ¬ n < 0) : ∃ a b, a + b ≤ m ∧ i = nI a ∧ n = nI b := by
  obtain ⟨h1, h2, h3⟩ := of_decide_eq_true h
  obtain ⟨a, ha, rfl⟩ := nI_of (Int32.not_lt.mpr h1)
  obtain ⟨b, hb, rfl⟩ := nI_of hn
  have ha2 : a ≤ m := (nI_leI ha (by omega)).mp h2
  rw [pk_sub ha2] at h3
  have := (nI_leI hb (by omega)).mp h3
  exact ⟨a, b, by omega, rfl, rfl⟩
theorem lay_sh {s : Nat} (hs : s < 4) : qm_lay[44 + s]? = some (.inr (.inl (40, 35 + s))) := by
  have : s = 0 ∨ s = 1 ∨ s = 2 ∨ s = 3 := by omega
  rcases this with rfl | rfl | rfl | rfl <;> rfl
/-- a row made anew; a cell; a stretch -/
def gs_mk (S : gs_T) (s : Nat) (sort : Int32) (n : Nat) : gs_T := (fun q => if q = s then sort else S.1 q, fun q => if q = s then n else S.2.1 q, fun q i => if q = s then 0 else S.2.2 q i)
def gs_pv (S : gs_T) (s : Nat) (v : Int32) : Int32 := if S.1 s = 0 then v.toInt8.toInt32 else if S.1 s = 1 then v.toInt16.toInt32 else v
def gs_pc (S : gs_T) (s j : Nat) (v : Int32) : gs_T := (S.1, S.2.1, fun q i => if q = s ∧ i = j then v else S.2.2 q i)
def gs_cp (S : gs_T) (s a o b n : Nat) : gs_T := (S.1, S.2.1, fun q i => if q = o ∧ b ≤ i ∧ i < b + n then S.2.2 s (a + (i - b)) else S.2.2 q i)
theorem gs_mk_ok {S : gs_T} (h : gs_ok S) {s : Nat} {sort : Int32} {n : Nat} (h1 : sort = -1 ∨ sort = 0 ∨ sort = 1 ∨ sort = 2) (hn : n ≤ 40) : gs_ok (gs_mk S s sort n) := by
  intro q hq
  obtain ⟨g1, g2⟩ := h q hq
  by_cases e : q = s
  · exact ⟨by show (if q = s then sort else S.1 q) = -1 ∨ _; simp only [gs_mk, e, if_true]; exact h1, by show (if q = s then n else S.2.1 q) ≤ 40; rw [if_pos e]; exact hn⟩
  · exact ⟨by simp only [gs_mk, e, if_false]; exact g1, by show (if q = s then n else S.2.1 q) ≤ 40; rw [if_neg e]; exact g2⟩
theorem gs_pc_ok {S : gs_T} (h : gs_ok S) (s j : Nat) (v : Int32) : gs_ok (gs_pc S s j v) := h
theorem gs_cp_ok {S : gs_T} (h : gs_ok S) (s a o b n : Nat) : gs_ok (gs_cp S s a o b n) := h
theorem SCmk {σ σ' : qm_St} {S : gs_T} (h : SC σ S) {s : Nat} {sort : Int32} {n : Nat} (g : sm (qm_wF (qm_wF σ 34 s sort) 33 s (nI n)) σ' 0 0 (35 + s) (36 + s)) (h0 : ∀ i, i < 40 → qm_rF σ' (35 + s) i = 0) (hs : s < 4) : SC σ' (gs_mk S s sort n) := by
  intro q hq
  obtain ⟨g1, g2, g3⟩ := h q hq
  refine ⟨?_, ?_, fun i hi => ?_⟩
  · rw [g.2 _ (by omega), rF_ne (by omega)]
    show _ = if q = s then sort else S.1 q
    by_cases e : q = s
    · rw [if_pos e, rF_eqi e]
    · rw [if_neg e, rF_ne (Or.inr e)]; exact g1
  · rw [g.2 _ (by omega)]
    show _ = nI (if q = s then n else S.2.1 q)
    by_cases e : q = s
    · rw [if_pos e, rF_eqi e]
    · rw [if_neg e, rF_ne (Or.inr e), rF_ne (by omega)]; exact g2
  · show _ = if q = s then 0 else S.2.2 q i
    by_cases e : q = s
    · rw [if_pos e, e]; exact h0 i hi
    · rw [if_neg e, g.2 _ (by omega), rF_ne (by omega), rF_ne (by omega)]; exact g3 i hi
theorem SCpc {σ : qm_St} {S : gs_T} (h : SC σ S) (s j : Nat) (v : Int32) (hs : s < 4) : SC (qm_wF σ (35 + s) j v) (gs_pc S s j v) := by
  intro q hq
  obtain ⟨g1, g2, g3⟩ := h q hq
  refine ⟨by rw [rF_ne (by omega)]; exact g1, by rw [rF_ne (by omega)]; exact g2, fun i hi => ?_⟩
  show _ = if q = s ∧ i = j then v else S.2.2 q i
  by_cases e : q = s ∧ i = j
  · rw [if_pos e, e.1, e.2, rF_eq]
  · rw [if_neg e, rF_ne (by omega)]; exact g3 i hi
theorem SMpc {σ : qm_St} {S : gs_T} (h : SM σ S) (s j : Nat) (v : Int32) (hs : s < 4) (hj : j < 40) : SM (qm_wF σ 53 (40 * s + j) v) (gs_pc S s j v) := by
  intro q hq
  obtain ⟨g1, g2, g3⟩ := h q hq
  refine ⟨by rw [rF_ne (by omega)]; exact g1, by rw [rF_ne (by omega)]; exact g2, fun i hi => ?_⟩
  show _ = if q = s ∧ i = j then v else S.2.2 q i
  by_cases e : q = s ∧ i = j
  · rw [if_pos e, e.1, e.2, rF_eq]
  · rw [if_neg e, rF_ne (by omega)]; exact g3 i hi
theorem CG.sheets {σ σ' : qm_St} {T : tn_T} {X : gx_T} {P : gt_T} {Im : gi_T} {S S' : gs_T} (hX : gx_ok X) (h : CG σ (T, X, P, Im, S)) (hS : SC σ' S') (g : sm σ σ' 25 25 33 39) : CG σ' (T, X, P, Im, S') :=
  ⟨h.1.sm g (by omega) (by omega), h.2.1.sm hX g (by omega) (by omega), h.2.2.1.sm g (by omega) (by omega), h.2.2.2.1.sm g (by omega) (by omega), hS⟩
theorem MG.sheets {σ σ' : qm_St} {T : tn_T} {X : gx_T} {P : gt_T} {Im : gi_T} {S S' : gs_T} (h : MG σ (T, X, P, Im, S)) (hS : SM σ' S') (g : sm σ σ' 36 36 51 54) : MG σ' (T, X, P, Im, S') :=
  ⟨h.1.sm g (by omega) (by omega), h.2.1.sm g (by omega) (by omega), h.2.2.1.sm g (by omega) (by omega), h.2.2.2.1.sm g (by omega) (by omega), hS, h.2.2.2.2.2.sm g (by omega)⟩
theorem tn_in3 (x : Int32) : tn_in x 0 3 = decide (0 ≤ x ∧ x < 4) := by
  refine decide_eq_decide.mpr ?_
  have e3 : (3 : Int32).toInt = 3 := rfl
  have e4 : (4 : Int32).toInt = 4 := rfl
  simp only [Int32.le_iff_toInt_le, Int32.lt_iff_toInt_lt, e3, e4]
  omega

theorem c_isSheet {lay : List qm_LE} (σ : qm_St) (x : Int32) : Ok lay 0 mX5_isSheet [.int x] σ (some (.int (b2i (tn_in x 0 3)))) σ := by
  refine Ok.of (ls := [some (.int x)]) (Nat.le_of_ble_eq_true rfl) rfl ?_
  refine ex_iload_n dX5_isSheet_0 rfl rfl ?_
  refine ex_if_lt (q := 13) (q2 := 4) dX5_isSheet_1 rfl rfl (fun h1 => ?_) (fun h1 => ?_)
  · refine ex_iconst (x := 0) dX5_isSheet_13 rfl rfl ?_
    exact ex_zret dX5_isSheet_14 rfl (by decide) (by rw [tn_in3]; first | exact b2i_t (decide_eq_true ⟨Int32.not_lt.mp h1, Int32.not_le.mp h6⟩) | exact b2i_f (decide_eq_false (fun z => Int32.not_lt.mpr z.1 h1)) | exact b2i_f (decide_eq_false (fun z => Int32.not_le.mpr z.2 h6))) rfl
  · refine ex_iload_n dX5_isSheet_4 rfl rfl ?_
    refine ex_iconst (x := 4) dX5_isSheet_5 rfl rfl ?_
    refine ex_icmp_ge (q := 13) (q2 := 9) dX5_isSheet_6 rfl rfl (fun h6 => ?_) (fun h6 => ?_)
    · refine ex_iconst (x := 0) dX5_isSheet_13 rfl rfl ?_
      exact ex_zret dX5_isSheet_14 rfl (by decide) (by rw [tn_in3]; first | exact b2i_t (decide_eq_true ⟨Int32.not_lt.mp h1, Int32.not_le.mp h6⟩) | exact b2i_f (decide_eq_false (fun z => Int32.not_lt.mpr z.1 h1)) | exact b2i_f (decide_eq_false (fun z => Int32.not_le.mpr z.2 h6))) rfl
    · refine ex_iconst (x := 1) dX5_isSheet_9 rfl rfl ?_
      refine ex_goto (q := 14) dX5_isSheet_10 rfl ?_
      exact ex_zret dX5_isSheet_14 rfl (by decide) (by rw [tn_in3]; first | exact b2i_t (decide_eq_true ⟨Int32.not_lt.mp h1, Int32.not_le.mp h6⟩) | exact b2i_f (decide_eq_false (fun z => Int32.not_lt.mpr z.1 h1)) | exact b2i_f (decide_eq_false (fun z => Int32.not_le.mpr z.2 h6))) rfl

theorem c_isMissing {σ : qm_St} {S : gs_T} (hS : gs_ok S) (h : SC σ S) {s : Nat} (hs : s < 4) : Ok qm_lay 0 mX5_isMissing [.ref 40, .int (nI s)] σ (some (.int (b2i (decide (S.1 s = -1))))) σ := by
  refine Ok.of (ls := [some (.ref 40), some (.int (nI s))]) (Nat.le_of_ble_eq_true rfl) rfl ?_
  refine ex_aload_n dX5_isMissing_0 rfl rfl ?_
  refine ex_getR (b := 43) dX5_isMissing_1 rfl qp_4_20 rfl rfl ?_
  refine ex_iload_n dX5_isMissing_4 rfl rfl ?_
  refine ex_iaload (k := s) (x := S.1 s) dX5_isMissing_5 rfl rfl (rfl) (by omega) (by decide) ((h s (by omega)).1) ?_
  refine ex_iconst (x := (-1)) dX5_isMissing_6 rfl rfl ?_
  refine ex_icmp_ne (q := 14) (q2 := 10) dX5_isMissing_7 rfl rfl (fun h7 => ?_) (fun h7 => ?_)
  · refine ex_iconst (x := 0) dX5_isMissing_14 rfl rfl ?_
    exact ex_zret dX5_isMissing_15 rfl (by decide) (by first | exact b2i_f (decide_eq_false h7) | exact b2i_t (decide_eq_true (Decidable.not_not.mp h7))) rfl
  · refine ex_iconst (x := 1) dX5_isMissing_10 rfl rfl ?_
    refine ex_goto (q := 15) dX5_isMissing_11 rfl ?_
    exact ex_zret dX5_isMissing_15 rfl (by decide) (by first | exact b2i_f (decide_eq_false h7) | exact b2i_t (decide_eq_true (Decidable.not_not.mp h7))) rfl

theorem c_hasCell {σ : qm_St} {S : gs_T} (hS : gs_ok S) (h : SC σ S) {s : Nat} (hs : s < 4) (i : Int32) : Ok qm_lay 0 mX5_hasCell [.ref 40, .int (nI s), .int i] σ (some (.int (b2i (gs_hc (S.2.1 s) i)))) σ := by
  refine Ok.of (ls := [some (.ref 40), some (.int (nI s)), some (.int i)]) (Nat.le_of_ble_eq_true rfl) rfl ?_
  refine ex_iload_n dX5_hasCell_0 rfl rfl ?_
  refine ex_if_lt (q := 18) (q2 := 4) dX5_hasCell_1 rfl rfl (fun h1 => ?_) (fun h1 => ?_)
  · refine ex_iconst (x := 0) dX5_hasCell_18 rfl rfl ?_
    exact ex_zret dX5_hasCell_19 rfl (by decide) (by first | exact b2i_t (decide_eq_true ⟨Int32.not_lt.mp h1, Int32.not_le.mp h11⟩) | exact b2i_f (decide_eq_false (fun z => Int32.not_lt.mpr z.1 h1)) | exact b2i_f (decide_eq_false (fun z => Int32.not_le.mpr z.2 h11))) rfl
  · refine ex_iload_n dX5_hasCell_4 rfl rfl ?_
    refine ex_aload_n dX5_hasCell_5 rfl rfl ?_
    refine ex_getR (b := 42) dX5_hasCell_6 rfl qp_4_16 rfl rfl ?_
    refine ex_iload_n dX5_hasCell_9 rfl rfl ?_
    refine ex_iaload (k := s) (x := nI (S.2.1 s)) dX5_hasCell_10 rfl rfl (rfl) (by omega) (by decide) ((h s (by omega)).2.1) ?_
    refine ex_icmp_ge (q := 18) (q2 := 14) dX5_hasCell_11 rfl rfl (fun h11 => ?_) (fun h11 => ?_)
    · refine ex_iconst (x := 0) dX5_hasCell_18 rfl rfl ?_
      exact ex_zret dX5_hasCell_19 rfl (by decide) (by first | exact b2i_t (decide_eq_true ⟨Int32.not_lt.mp h1, Int32.not_le.mp h11⟩) | exact b2i_f (decide_eq_false (fun z => Int32.not_lt.mpr z.1 h1)) | exact b2i_f (decide_eq_false (fun z => Int32.not_le.mpr z.2 h11))) rfl
    · refine ex_iconst (x := 1) dX5_hasCell_14 rfl rfl ?_
      refine ex_goto (q := 19) dX5_hasCell_15 rfl ?_
      exact ex_zret dX5_hasCell_19 rfl (by decide) (by first | exact b2i_t (decide_eq_true ⟨Int32.not_lt.mp h1, Int32.not_le.mp h11⟩) | exact b2i_f (decide_eq_false (fun z => Int32.not_lt.mpr z.1 h1)) | exact b2i_f (decide_eq_false (fun z => Int32.not_le.mpr z.2 h11))) rfl

theorem c_hasRange {σ : qm_St} {S : gs_T} (hS : gs_ok S) (h : SC σ S) {s : Nat} (hs : s < 4) (i n : Int32) : Ok qm_lay 0 mX5_hasRange [.ref 40, .int (nI s), .int i, .int n] σ (some (.int (b2i (gs_hr (S.2.1 s) i n)))) σ := by
  refine Ok.of (ls := [some (.ref 40), some (.int (nI s)), some (.int i), some (.int n)]) (Nat.le_of_ble_eq_true rfl) rfl ?_
  refine ex_iload_n dX5_hasRange_0 rfl rfl ?_
  refine ex_if_lt (q := 30) (q2 := 4) dX5_hasRange_1 rfl rfl (fun h1 => ?_) (fun h1 => ?_)
  · refine ex_iconst (x := 0) dX5_hasRange_30 rfl rfl ?_
    exact ex_zret dX5_hasRange_31 rfl (by decide) (by first | exact b2i_t (decide_eq_true ⟨Int32.not_lt.mp h1, Int32.not_lt.mp h11, Int32.not_lt.mp h23⟩) | exact b2i_f (decide_eq_false (fun z => Int32.not_lt.mpr z.1 h1)) | exact b2i_f (decide_eq_false (fun z => Int32.not_lt.mpr z.2.1 h11)) | exact b2i_f (decide_eq_false (fun z => Int32.not_lt.mpr z.2.2 h23))) rfl
  · refine ex_iload_n dX5_hasRange_4 rfl rfl ?_
    refine ex_aload_n dX5_hasRange_5 rfl rfl ?_
    refine ex_getR (b := 42) dX5_hasRange_6 rfl qp_4_16 rfl rfl ?_
    refine ex_iload_n dX5_hasRange_9 rfl rfl ?_
    refine ex_iaload (k := s) (x := nI (S.2.1 s)) dX5_hasRange_10 rfl rfl (rfl) (by omega) (by decide) ((h s (by omega)).2.1) ?_
    refine ex_icmp_gt (q := 30) (q2 := 14) dX5_hasRange_11 rfl rfl (fun h11 => ?_) (fun h11 => ?_)
    · refine ex_iconst (x := 0) dX5_hasRange_30 rfl rfl ?_
      exact ex_zret dX5_hasRange_31 rfl (by decide) (by first | exact b2i_t (decide_eq_true ⟨Int32.not_lt.mp h1, Int32.not_lt.mp h11, Int32.not_lt.mp h23⟩) | exact b2i_f (decide_eq_false (fun z => Int32.not_lt.mpr z.1 h1)) | exact b2i_f (decide_eq_false (fun z => Int32.not_lt.mpr z.2.1 h11)) | exact b2i_f (decide_eq_false (fun z => Int32.not_lt.mpr z.2.2 h23))) rfl
    · refine ex_iload_n dX5_hasRange_14 rfl rfl ?_
      refine ex_aload_n dX5_hasRange_15 rfl rfl ?_
      refine ex_getR (b := 42) dX5_hasRange_16 rfl qp_4_16 rfl rfl ?_
      refine ex_iload_n dX5_hasRange_19 rfl rfl ?_
      refine ex_iaload (k := s) (x := nI (S.2.1 s)) dX5_hasRange_20 rfl rfl (rfl) (by omega) (by decide) ((h s (by omega)).2.1) ?_
      refine ex_iload_n dX5_hasRange_21 rfl rfl ?_
      refine ex_isub (z := (nI (S.2.1 s)) - i) dX5_hasRange_22 rfl (rfl) ?_
      refine ex_icmp_gt (q := 30) (q2 := 26) dX5_hasRange_23 rfl rfl (fun h23 => ?_) (fun h23 => ?_)
      · refine ex_iconst (x := 0) dX5_hasRange_30 rfl rfl ?_
        exact ex_zret dX5_hasRange_31 rfl (by decide) (by first | exact b2i_t (decide_eq_true ⟨Int32.not_lt.mp h1, Int32.not_lt.mp h11, Int32.not_lt.mp h23⟩) | exact b2i_f (decide_eq_false (fun z => Int32.not_lt.mpr z.1 h1)) | exact b2i_f (decide_eq_false (fun z => Int32.not_lt.mpr z.2.1 h11)) | exact b2i_f (decide_eq_false (fun z => Int32.not_lt.mpr z.2.2 h23))) rfl
      · refine ex_iconst (x := 1) dX5_hasRange_26 rfl rfl ?_
        refine ex_goto (q := 31) dX5_hasRange_27 rfl ?_
        exact ex_zret dX5_hasRange_31 rfl (by decide) (by first | exact b2i_t (decide_eq_true ⟨Int32.not_lt.mp h1, Int32.not_lt.mp h11, Int32.not_lt.mp h23⟩) | exact b2i_f (decide_eq_false (fun z => Int32.not_lt.mpr z.1 h1)) | exact b2i_f (decide_eq_false (fun z => Int32.not_lt.mpr z.2.1 h11)) | exact b2i_f (decide_eq_false (fun z => Int32.not_lt.mpr z.2.2 h23))) rfl

theorem c_cellAt_t {σ : qm_St} {S : gs_T} (hS : gs_ok S) (h : SC σ S) {s : Nat} (hs : s < 4) {i : Nat} (hi : i < S.2.1 s) : Ok qm_lay 1 mX5_cellAt [.ref 40, .int (nI s), .int (nI i)] σ (some (.int (S.2.2 s i))) σ := by
  refine Ok.of (ls := [some (.ref 40), some (.int (nI s)), some (.int (nI i))]) (Nat.le_of_ble_eq_true rfl) rfl ?_
  have h40 := (hS s hs).2
  refine ex_aload_n dX5_cellAt_0 rfl rfl ?_
  refine ex_iload_n dX5_cellAt_1 rfl rfl ?_
  refine ex_iload_n dX5_cellAt_2 rfl rfl ?_
  refine ex_callV (a := 40) (rest := []) dX5_cellAt_3 rfl qp_4_29 rfl rfl rfl rfl rfl (Nat.le_of_ble_eq_true rfl) (c_hasCell hS h hs _) (Nat.le_of_ble_eq_true rfl) ?_
  show Ex qm_lay _ mX5_cellAt 6 [some (.ref 40), some (.int (nI s)), some (.int (nI i))] [.int (b2i (gs_hc (S.2.1 s) (nI i)))] σ _ _
  refine ex_if_eq (q := 20) (q2 := 9) dX5_cellAt_6 rfl rfl (fun hh => absurd hh (b2i_n0.mpr (gs_hc_nI hi (by omega)))) (fun _ => ?_)
  refine ex_aload_n dX5_cellAt_9 rfl rfl ?_
  refine ex_getR (b := 41) dX5_cellAt_10 rfl qp_4_11 rfl rfl ?_
  refine ex_iload_n dX5_cellAt_13 rfl rfl ?_
  refine ex_aaload (k := s) (r := 44 + s) dX5_cellAt_14 rfl rfl (rfl) (by omega) (by decide) rfl ?_
  refine ex_iload_n dX5_cellAt_15 rfl rfl ?_
  refine ex_iaload (k := i) (x := S.2.2 s i) dX5_cellAt_16 rfl (lay_sh hs) (rfl) (by omega) (by decide) ((h s hs).2.2 i (by omega)) ?_
  refine ex_goto (q := 21) dX5_cellAt_17 rfl ?_
  exact ex_iret dX5_cellAt_21 rfl rfl rfl

set_option maxHeartbeats 2000000 in
theorem l_fill {lay : List qm_LE} {σ : qm_St} {p n j : Nat} (hp : lay[p]? = some (.inr (.inl (n, j)))) (hn : n < 2 ^ 31) (v : Int32) : ∀ (r k : Nat) (σ1 : qm_St), k + r = n → sm σ σ1 0 0 j (j + 1) → (∀ i, i < k → qm_rF σ1 j i = v) → ∃ σ', Ex lay 0 mJ7_fill_53178 5 [some (.ref p), some (.int v), some (.int (nI k)), some (.int (nI n))] [] σ1 none σ' ∧ sm σ σ' 0 0 j (j + 1) ∧ ∀ i, i < n → qm_rF σ' j i = v := by
  intro r
  induction r with
  | zero =>
    intro k σ1 hk hs1 hq
    refine ⟨σ1, ?_, hs1, fun i hi => hq i (by omega)⟩
    refine ex_iload_n dJ7_fill_53178_5 rfl rfl ?_
    refine ex_iload_n dJ7_fill_53178_6 rfl rfl ?_
    refine ex_icmp_ge (q := 20) (q2 := 10) dJ7_fill_53178_7 rfl rfl (fun _ => ?_) (fun hh => absurd (nI_le (by omega) (by omega)) hh)
    exact ex_vret dJ7_fill_53178_20 rfl rfl rfl
  | succ r ih =>
    intro k σ1 hk hs1 hq
    obtain ⟨σ', hE, hs2, hq2⟩ := ih (k + 1) (qm_wF σ1 j k v) (by omega) (hs1.wF _ (by omega)) (fun i hi => by
      by_cases e : i = k
      · exact rF_eqi e
      · rw [rF_ne (Or.inr e)]; exact hq i (by omega))
    refine ⟨σ', ?_, hs2, hq2⟩
    refine ex_iload_n dJ7_fill_53178_5 rfl rfl ?_
    refine ex_iload_n dJ7_fill_53178_6 rfl rfl ?_
    refine ex_icmp_ge (q := 20) (q2 := 10) dJ7_fill_53178_7 rfl rfl (fun hh => absurd hh (nI_ge (by omega) (by omega))) (fun _ => ?_)
    refine ex_aload_n dJ7_fill_53178_10 rfl rfl ?_
    refine ex_iload_n dJ7_fill_53178_11 rfl rfl ?_
    refine ex_iload_n dJ7_fill_53178_12 rfl rfl ?_
    refine ex_iastore (n := n) (k := k) (σ' := qm_wF σ1 j k v) dJ7_fill_53178_13 rfl hp (rfl) (by omega) hn rfl ?_
    refine ex_iinc (y := nI (k + 1)) (ls' := [some (.ref p), some (.int v), some (.int (nI (k + 1))), some (.int (nI n))]) dJ7_fill_53178_14 rfl rfl rfl (nI_add k 1) rfl ?_
    refine ex_goto (q := 5) dJ7_fill_53178_17 rfl ?_
    exact hE

theorem c_fill {lay : List qm_LE} {σ : qm_St} {p n j : Nat} (hp : lay[p]? = some (.inr (.inl (n, j)))) (hn : n < 2 ^ 31) (v : Int32) : ∃ σ', Ok lay 0 mJ7_fill_53178 [.ref p, .int v] σ none σ' ∧ sm σ σ' 0 0 j (j + 1) ∧ ∀ i, i < n → qm_rF σ' j i = v := by
  obtain ⟨σ', hE, hs, hq⟩ := l_fill hp hn v n 0 σ (by omega) (sm.rf _ _ _ _ _) (fun i hi => absurd hi (Nat.not_lt_zero i))
  refine ⟨σ', ?_, hs, hq⟩
  refine Ok.of (ls := [some (.ref p), some (.int v), none, none]) (Nat.le_of_ble_eq_true rfl) rfl ?_
  refine ex_iconst (x := 0) dJ7_fill_53178_0 rfl rfl ?_
  refine ex_istore_n (ls' := [some (.ref p), some (.int v), some (.int 0), none]) dJ7_fill_53178_1 rfl (Nat.le_of_ble_eq_true rfl) rfl rfl ?_
  refine ex_aload_n dJ7_fill_53178_2 rfl rfl ?_
  refine ex_alen (n := n) (x := nI n) dJ7_fill_53178_3 rfl hp rfl ?_
  refine ex_istore_n (ls' := [some (.ref p), some (.int v), some (.int 0), some (.int (nI n))]) dJ7_fill_53178_4 rfl (Nat.le_of_ble_eq_true rfl) rfl rfl ?_
  exact hE
set_option maxHeartbeats 2000000 in
theorem c_makeRow {σ : qm_St} {S : gs_T} (hS : gs_ok S) (h : SC σ S) {s : Nat} (hs : s < 4) (sort : Int32) (n : Nat) : ∃ σ', Ok qm_lay 1 mX5_makeRow [.ref 40, .int (nI s), .int sort, .int (nI n)] σ none σ' ∧ SC σ' (gs_mk S s sort n) ∧ sm σ σ' 25 25 33 39 := by
  obtain ⟨σ', hO, hs2, hq⟩ := c_fill (lay := qm_lay) (σ := qm_wF (qm_wF σ 34 s sort) 33 s (nI n)) (lay_sh hs) (by decide) 0
  refine ⟨σ', ?_, SCmk h (by rw [show 36 + s = 35 + s + 1 by omega]; exact hs2) hq hs, (((sm.rf σ 25 25 33 39).wF _ (by omega)).wF _ (by omega)).tr ((hs2.em 25).wid (by omega) (by omega))⟩
  refine Ok.of (ls := [some (.ref 40), some (.int (nI s)), some (.int sort), some (.int (nI n))]) (Nat.le_of_ble_eq_true rfl) rfl ?_
  refine ex_aload_n dX5_makeRow_0 rfl rfl ?_
  refine ex_getR (b := 43) dX5_makeRow_1 rfl qp_4_20 rfl rfl ?_
  refine ex_iload_n dX5_makeRow_4 rfl rfl ?_
  refine ex_iload_n dX5_makeRow_5 rfl rfl ?_
  refine ex_iastore (k := s) (σ' := qm_wF σ 34 s sort) dX5_makeRow_6 rfl rfl (rfl) (by omega) (by decide) rfl ?_
  refine ex_aload_n dX5_makeRow_7 rfl rfl ?_
  refine ex_getR (b := 42) dX5_makeRow_8 rfl qp_4_16 rfl rfl ?_
  refine ex_iload_n dX5_makeRow_11 rfl rfl ?_
  refine ex_iload_n dX5_makeRow_12 rfl rfl ?_
  refine ex_iastore (k := s) (σ' := qm_wF (qm_wF σ 34 s sort) 33 s (nI n)) dX5_makeRow_13 rfl rfl (rfl) (by omega) (by decide) rfl ?_
  refine ex_aload_n dX5_makeRow_14 rfl rfl ?_
  refine ex_getR (b := 41) dX5_makeRow_15 rfl qp_4_11 rfl rfl ?_
  refine ex_iload_n dX5_makeRow_18 rfl rfl ?_
  refine ex_aaload (k := s) (r := 44 + s) dX5_makeRow_19 rfl rfl (rfl) (by omega) (by decide) rfl ?_
  refine ex_iconst (x := 0) dX5_makeRow_20 rfl rfl ?_
  refine ex_callS (rest := []) dX5_makeRow_21 rfl qp_4_23 rfl rfl rfl (Nat.le_of_ble_eq_true rfl) (hO) (Nat.le_of_ble_eq_true rfl) ?_
  show Ex qm_lay _ mX5_makeRow 24 [some (.ref 40), some (.int (nI s)), some (.int sort), some (.int (nI n))] [] σ' _ _
  exact ex_vret dX5_makeRow_24 rfl rfl rfl

set_option maxHeartbeats 2000000 in
theorem c_putCell {σ : qm_St} {S : gs_T} (hS : gs_ok S) (h : SC σ S) {s : Nat} (hs : s < 4) {j : Nat} (hj : j < 40) (v : Int32) : Ok qm_lay 0 mX5_putCell [.ref 40, .int (nI s), .int (nI j), .int v] σ none (qm_wF σ (35 + s) j (gs_pv S s v)) := by
  refine Ok.of (ls := [some (.ref 40), some (.int (nI s)), some (.int (nI j)), some (.int v)]) (Nat.le_of_ble_eq_true rfl) rfl ?_
  refine ex_aload_n dX5_putCell_0 rfl rfl ?_
  refine ex_getR (b := 41) dX5_putCell_1 rfl qp_4_11 rfl rfl ?_
  refine ex_iload_n dX5_putCell_4 rfl rfl ?_
  refine ex_aaload (k := s) (r := 44 + s) dX5_putCell_5 rfl rfl (rfl) (by omega) (by decide) rfl ?_
  refine ex_iload_n dX5_putCell_6 rfl rfl ?_
  refine ex_aload_n dX5_putCell_7 rfl rfl ?_
  refine ex_getR (b := 43) dX5_putCell_8 rfl qp_4_20 rfl rfl ?_
  refine ex_iload_n dX5_putCell_11 rfl rfl ?_
  refine ex_iaload (k := s) (x := S.1 s) dX5_putCell_12 rfl rfl (rfl) (by omega) (by decide) ((h s (by omega)).1) ?_
  refine ex_if_ne (q := 21) (q2 := 16) dX5_putCell_13 rfl rfl (fun h13 => ?_) (fun h13 => ?_)
  · refine ex_aload_n dX5_putCell_21 rfl rfl ?_
    refine ex_getR (b := 43) dX5_putCell_22 rfl qp_4_20 rfl rfl ?_
    refine ex_iload_n dX5_putCell_25 rfl rfl ?_
    refine ex_iaload (k := s) (x := S.1 s) dX5_putCell_26 rfl rfl (rfl) (by omega) (by decide) ((h s (by omega)).1) ?_
    refine ex_iconst (x := 1) dX5_putCell_27 rfl rfl ?_
    refine ex_icmp_ne (q := 36) (q2 := 31) dX5_putCell_28 rfl rfl (fun h28 => ?_) (fun h28 => ?_)
    · refine ex_iload_n dX5_putCell_36 rfl rfl ?_
      refine ex_iastore (k := j) (σ' := qm_wF σ (35 + s) j v) dX5_putCell_37 rfl (lay_sh hs) (rfl) (by omega) (by decide) rfl ?_
      exact ex_vret dX5_putCell_38 rfl (rfl) (congrArg (qm_wF σ (35 + s) j) ((if_neg h13).trans (if_neg h28)).symm)
    · refine ex_iload_n dX5_putCell_31 rfl rfl ?_
      refine ex_i2s (z := v.toInt16.toInt32) dX5_putCell_32 rfl (rfl) ?_
      refine ex_goto (q := 37) dX5_putCell_33 rfl ?_
      refine ex_iastore (k := j) (σ' := qm_wF σ (35 + s) j v.toInt16.toInt32) dX5_putCell_37 rfl (lay_sh hs) (rfl) (by omega) (by decide) rfl ?_
      exact ex_vret dX5_putCell_38 rfl (rfl) (congrArg (qm_wF σ (35 + s) j) ((if_neg h13).trans (if_pos (Decidable.not_not.mp h28))).symm)
  · refine ex_iload_n dX5_putCell_16 rfl rfl ?_
    refine ex_i2b (z := v.toInt8.toInt32) dX5_putCell_17 rfl (rfl) ?_
    refine ex_goto (q := 37) dX5_putCell_18 rfl ?_
    refine ex_iastore (k := j) (σ' := qm_wF σ (35 + s) j v.toInt8.toInt32) dX5_putCell_37 rfl (lay_sh hs) (rfl) (by omega) (by decide) rfl ?_
    exact ex_vret dX5_putCell_38 rfl (rfl) (congrArg (qm_wF σ (35 + s) j) (if_pos (Decidable.not_not.mp h13)).symm)

