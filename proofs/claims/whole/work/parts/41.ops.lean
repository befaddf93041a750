/-! ===== a call on both sides ===== -/
def JV (mC mM : qm_MI) (as : List Value) (G : gg_T) (r : Value) (G' : gg_T) : Prop :=
  gg_ok G' ∧ (∀ σ, CG σ G → ∃ σ', Ok qm_lay 100 mC (.ref 54 :: as) σ (some r) σ' ∧ CG σ' G' ∧ sm σ σ' 0 27 0 42) ∧
  (∀ σ, MG σ G → ∃ σ', Ok qm_lay 100 mM (.ref 55 :: as) σ (some r) σ' ∧ MG σ' G' ∧ sm σ σ' 27 46 42 62)
def J (mC mM : qm_MI) (as : List Value) (G : gg_T) : Prop := ∃ r G', JV mC mM as G r G'
theorem J.q {mC mM : qm_MI} {as : List Value} {G : gg_T} (hG : gg_ok G) (r : Value) (h1 : ∀ σ, CG σ G → Ok qm_lay 100 mC (.ref 54 :: as) σ (some r) σ) (h2 : ∀ σ, MG σ G → Ok qm_lay 100 mM (.ref 55 :: as) σ (some r) σ) : J mC mM as G :=
  ⟨r, G, hG, fun σ h => ⟨σ, h1 σ h, h, sm.rf _ _ _ _ _⟩, fun σ h => ⟨σ, h2 σ h, h, sm.rf _ _ _ _ _⟩⟩
theorem J.u {mC mM : qm_MI} {as : List Value} {G : gg_T} (r : Value) (G' : gg_T) (hG : gg_ok G') (h1 : ∀ σ, CG σ G → ∃ σ', Ok qm_lay 100 mC (.ref 54 :: as) σ (some r) σ' ∧ CG σ' G' ∧ sm σ σ' 0 27 0 42) (h2 : ∀ σ, MG σ G → ∃ σ', Ok qm_lay 100 mM (.ref 55 :: as) σ (some r) σ' ∧ MG σ' G' ∧ sm σ σ' 27 46 42 62) : J mC mM as G := ⟨r, G', hG, h1, h2⟩
theorem sw_in {n : Nat} (hn : n < 2 ^ 31) (x : Int32) : (∃ k, k ≤ n ∧ x = nI k) ∨ (x.toInt < 0 ∨ (n : Int) < x.toInt) := by
  by_cases h : x < 0
  · exact Or.inr (Or.inl (by rw [Int32.lt_iff_toInt_lt] at h; exact h))
  · obtain ⟨j, hj, rfl⟩ := nI_of h
    by_cases g : j ≤ n
    · exact Or.inl ⟨j, g, rfl⟩
    · exact Or.inr (Or.inr (by rw [nI_toInt hj]; omega))
theorem nsw {n : Nat} (hn : n < 2 ^ 31) {x : Int32} (h : x.toInt < 0 ∨ (n : Int) < x.toInt) {k : Nat} (hk : k ≤ n) : ¬ x = nI k := fun e => by
  rw [e, nI_toInt (by omega)] at h; omega
/-- between two bounds -/
theorem tn_in_t {n : Nat} {x y : Nat} (h1 : x ≤ n) (h2 : n ≤ y) (hy : y < 2 ^ 31) : tn_in (nI n) (nI x) (nI y) = true := decide_eq_true ⟨nI_le h1 (by omega), nI_le h2 hy⟩
theorem tn_in_o {n : Nat} (hn : n < 2 ^ 31) {x : Int32} (h : x.toInt < 0 ∨ (n : Int) < x.toInt) : tn_in x 0 (nI n) = false := decide_eq_false (fun z => by
  have e := nI_toInt hn
  have e0 : (0 : Int32).toInt = 0 := rfl
  simp only [Int32.le_iff_toInt_le, e, e0] at z; omega)
theorem tn_in_lt {x y : Int32} (h : x < 0) : tn_in x 0 y = false := decide_eq_false (fun z => Int32.not_lt.mpr z.1 h)
theorem tn_in_of {n : Nat} (hn : n < 2 ^ 31) {x : Int32} (h : tn_in x 0 (nI n) = true) : ∃ k, k ≤ n ∧ x = nI k := by
  rcases sw_in hn x with g | g
  · exact g
  · rw [tn_in_o hn g] at h; cases h
theorem tn_cls {u l : Nat} (hl : l < 7) (hu : u < 128) : nI u &&& (nI (2 ^ l) ^^^ (-1)) = nI (tn_cl u l) := by
  rw [← nI_1shl (show l < 31 by omega)]; exact tn_cl_dec l hl u hu
theorem tn_has_nf {T : tn_T} (hT : tn_ok T) {l : Nat} (hl : ¬ l < tn_L T) (h2 : l < 2 ^ 31) : tn_has T (nI l) = false := decide_eq_false (fun z => hl ((nI_ltI h2 (by have := hT.1; omega)).mp z.2))
theorem tn_col_nI {T : tn_T} (hT : tn_ok T) {l : Nat} (hl : l < tn_L T) : tn_col T (nI l) = tn_cv T l := by
  rw [tn_col, tn_blt_nI hT hl, tn_cv, nI_clamp (by have := hT.1; omega)]
theorem tn_two_of {T : tn_T} (hT : tn_ok T) {x y : Int32} (h : tn_two T x y = true) : ∃ a b, a < tn_L T ∧ b < tn_L T ∧ a ≠ b ∧ x = nI a ∧ y = nI b := by
  rw [tn_two, Bool.and_eq_true, Bool.and_eq_true] at h
  obtain ⟨a, ha, rfl⟩ := tn_has_of hT h.1.1
  obtain ⟨b, hb, rfl⟩ := tn_has_of hT h.1.2
  exact ⟨a, b, ha, hb, fun e => of_decide_eq_true h.2 (by rw [e]), rfl, rfl⟩
theorem tn_two_nI {T : tn_T} (hT : tn_ok T) {a b : Nat} (ha : a < tn_L T) (hb : b < tn_L T) (hab : a ≠ b) : tn_two T (nI a) (nI b) = true := by
  rw [tn_two, tn_has_nI hT ha, tn_has_nI hT hb]
  exact decide_eq_true (fun e => hab ((nI_eq (by have := hT.1; omega) (by have := hT.1; omega)).mp e))
section NIS
variable {σ : qm_St} {T : tn_T}
theorem c_hasLot_0n (hT : tn_ok T) (h : TR σ 9 18 T) {l : Nat} (hl : l < tn_L T) : Ok qm_lay 0 mX7_hasLot [.ref 22, .int (nI l)] σ (some (.int 1)) σ := (c_hasLot_0 hT h (nI l)).eq (by rw [tn_has_nI hT hl]; rfl) rfl
theorem c_isBuilt_0n (hT : tn_ok T) (h : TR σ 9 18 T) {l : Nat} (hl : l < tn_L T) : Ok qm_lay 1 mX7_isBuilt [.ref 22, .int (nI l)] σ (some (.int (b2i ((tn_u T).testBit l)))) σ := (c_isBuilt_0 hT h (nI l)).eq (by rw [tn_blt_nI hT hl]) rfl
theorem c_colourOf_0n (hT : tn_ok T) (h : TR σ 9 18 T) {l : Nat} (hl : l < tn_L T) : Ok qm_lay 2 mX7_colourOf [.ref 22, .int (nI l)] σ (some (.int (tn_cv T l))) σ := (c_colourOf_0 hT h (nI l)).eq (by rw [tn_col_nI hT hl]) rfl
theorem c_hasLot_1n (hT : tn_ok T) (h : TR σ 13 23 T) {l : Nat} (hl : l < tn_L T) : Ok qm_lay 0 mX7_hasLot [.ref 28, .int (nI l)] σ (some (.int 1)) σ := (c_hasLot_1 hT h (nI l)).eq (by rw [tn_has_nI hT hl]; rfl) rfl
theorem c_isBuilt_1n (hT : tn_ok T) (h : TR σ 13 23 T) {l : Nat} (hl : l < tn_L T) : Ok qm_lay 1 mX7_isBuilt [.ref 28, .int (nI l)] σ (some (.int (b2i ((tn_u T).testBit l)))) σ := (c_isBuilt_1 hT h (nI l)).eq (by rw [tn_blt_nI hT hl]) rfl
theorem c_colourOf_1n (hT : tn_ok T) (h : TR σ 13 23 T) {l : Nat} (hl : l < tn_L T) : Ok qm_lay 2 mX7_colourOf [.ref 28, .int (nI l)] σ (some (.int (tn_cv T l))) σ := (c_colourOf_1 hT h (nI l)).eq (by rw [tn_col_nI hT hl]) rfl
theorem k_isLot_n (hT : tn_ok T) (h : MR σ T) {l : Nat} (hl : l < tn_L T) : Ok qm_lay 1 mX9_isLot [.ref 55, .int (nI l)] σ (some (.int 1)) σ := (k_isLot hT h (nI l)).eq (by rw [tn_has_nI hT hl]; rfl) rfl
end NIS

theorem c_isColour {lay : List qm_LE} (σ : qm_St) (x : Int32) : Ok lay 1 mX8_isColour [.int x] σ (some (.int (b2i (tn_in x 0 11)))) σ := by
  refine Ok.of (ls := [some (.int x)]) (Nat.le_of_ble_eq_true rfl) rfl ?_
  refine ex_iload_n dX8_isColour_0 rfl rfl ?_
  refine ex_if_lt (q := 14) (q2 := 4) dX8_isColour_1 rfl rfl (fun h1 => ?_) (fun h1 => ?_)
  · refine ex_iconst (x := 0) dX8_isColour_14 rfl rfl ?_
    exact ex_zret dX8_isColour_15 rfl (by decide) (by first | exact b2i_t (decide_eq_true ⟨Int32.not_lt.mp (by assumption), (by first | assumption | exact Int32.not_lt.mp (by assumption))⟩) | exact b2i_f (decide_eq_false (fun z => by first | exact Int32.not_lt.mpr z.1 (by assumption) | exact Int32.not_lt.mpr z.2 (by assumption) | exact absurd z.2 (by assumption)))) rfl
  · refine ex_iload_n dX8_isColour_4 rfl rfl ?_
    refine ex_bipush (x := 11) dX8_isColour_5 rfl rfl ?_
    refine ex_icmp_gt (q := 14) (q2 := 10) dX8_isColour_7 rfl rfl (fun h7 => ?_) (fun h7 => ?_)
    · refine ex_iconst (x := 0) dX8_isColour_14 rfl rfl ?_
      exact ex_zret dX8_isColour_15 rfl (by decide) (by first | exact b2i_t (decide_eq_true ⟨Int32.not_lt.mp (by assumption), (by first | assumption | exact Int32.not_lt.mp (by assumption))⟩) | exact b2i_f (decide_eq_false (fun z => by first | exact Int32.not_lt.mpr z.1 (by assumption) | exact Int32.not_lt.mpr z.2 (by assumption) | exact absurd z.2 (by assumption)))) rfl
    · refine ex_iconst (x := 1) dX8_isColour_10 rfl rfl ?_
      refine ex_goto (q := 15) dX8_isColour_11 rfl ?_
      exact ex_zret dX8_isColour_15 rfl (by decide) (by first | exact b2i_t (decide_eq_true ⟨Int32.not_lt.mp (by assumption), (by first | assumption | exact Int32.not_lt.mp (by assumption))⟩) | exact b2i_f (decide_eq_false (fun z => by first | exact Int32.not_lt.mpr z.1 (by assumption) | exact Int32.not_lt.mpr z.2 (by assumption) | exact absurd z.2 (by assumption)))) rfl

theorem c_isByte {lay : List qm_LE} (σ : qm_St) (x : Int32) : Ok lay 1 mX8_isByte [.int x] σ (some (.int (b2i (tn_in x 0 255)))) σ := by
  refine Ok.of (ls := [some (.int x)]) (Nat.le_of_ble_eq_true rfl) rfl ?_
  refine ex_iload_n dX8_isByte_0 rfl rfl ?_
  refine ex_if_lt (q := 15) (q2 := 4) dX8_isByte_1 rfl rfl (fun h1 => ?_) (fun h1 => ?_)
  · refine ex_iconst (x := 0) dX8_isByte_15 rfl rfl ?_
    exact ex_zret dX8_isByte_16 rfl (by decide) (by first | exact b2i_t (decide_eq_true ⟨Int32.not_lt.mp (by assumption), (by first | assumption | exact Int32.not_lt.mp (by assumption))⟩) | exact b2i_f (decide_eq_false (fun z => by first | exact Int32.not_lt.mpr z.1 (by assumption) | exact Int32.not_lt.mpr z.2 (by assumption) | exact absurd z.2 (by assumption)))) rfl
  · refine ex_iload_n dX8_isByte_4 rfl rfl ?_
    refine ex_sipush (x := 255) dX8_isByte_5 rfl rfl ?_
    refine ex_icmp_gt (q := 15) (q2 := 11) dX8_isByte_8 rfl rfl (fun h8 => ?_) (fun h8 => ?_)
    · refine ex_iconst (x := 0) dX8_isByte_15 rfl rfl ?_
      exact ex_zret dX8_isByte_16 rfl (by decide) (by first | exact b2i_t (decide_eq_true ⟨Int32.not_lt.mp (by assumption), (by first | assumption | exact Int32.not_lt.mp (by assumption))⟩) | exact b2i_f (decide_eq_false (fun z => by first | exact Int32.not_lt.mpr z.1 (by assumption) | exact Int32.not_lt.mpr z.2 (by assumption) | exact absurd z.2 (by assumption)))) rfl
    · refine ex_iconst (x := 1) dX8_isByte_11 rfl rfl ?_
      refine ex_goto (q := 16) dX8_isByte_12 rfl ?_
      exact ex_zret dX8_isByte_16 rfl (by decide) (by first | exact b2i_t (decide_eq_true ⟨Int32.not_lt.mp (by assumption), (by first | assumption | exact Int32.not_lt.mp (by assumption))⟩) | exact b2i_f (decide_eq_false (fun z => by first | exact Int32.not_lt.mpr z.1 (by assumption) | exact Int32.not_lt.mpr z.2 (by assumption) | exact absurd z.2 (by assumption)))) rfl

theorem c_isSeed {lay : List qm_LE} (σ : qm_St) (x : Int32) : Ok lay 1 mX8_isSeed [.int x] σ (some (.int (b2i (tn_in x 0 99999)))) σ := by
  refine Ok.of (ls := [some (.int x)]) (Nat.le_of_ble_eq_true rfl) rfl ?_
  refine ex_iload_n dX8_isSeed_0 rfl rfl ?_
  refine ex_if_lt (q := 15) (q2 := 4) dX8_isSeed_1 rfl rfl (fun h1 => ?_) (fun h1 => ?_)
  · refine ex_iconst (x := 0) dX8_isSeed_15 rfl rfl ?_
    exact ex_zret dX8_isSeed_16 rfl (by decide) (by first | exact b2i_t (decide_eq_true ⟨Int32.not_lt.mp (by assumption), (by first | assumption | exact Int32.not_lt.mp (by assumption))⟩) | exact b2i_f (decide_eq_false (fun z => by first | exact Int32.not_lt.mpr z.1 (by assumption) | exact Int32.not_lt.mpr z.2 (by assumption) | exact absurd z.2 (by assumption)))) rfl
  · refine ex_iload_n dX8_isSeed_4 rfl rfl ?_
    refine ex_ldc_w (x := 99999) dX8_isSeed_5 rfl qp_7_269 ?_
    refine ex_icmp_gt (q := 15) (q2 := 11) dX8_isSeed_8 rfl rfl (fun h8 => ?_) (fun h8 => ?_)
    · refine ex_iconst (x := 0) dX8_isSeed_15 rfl rfl ?_
      exact ex_zret dX8_isSeed_16 rfl (by decide) (by first | exact b2i_t (decide_eq_true ⟨Int32.not_lt.mp (by assumption), (by first | assumption | exact Int32.not_lt.mp (by assumption))⟩) | exact b2i_f (decide_eq_false (fun z => by first | exact Int32.not_lt.mpr z.1 (by assumption) | exact Int32.not_lt.mpr z.2 (by assumption) | exact absurd z.2 (by assumption)))) rfl
    · refine ex_iconst (x := 1) dX8_isSeed_11 rfl rfl ?_
      refine ex_goto (q := 16) dX8_isSeed_12 rfl ?_
      exact ex_zret dX8_isSeed_16 rfl (by decide) (by first | exact b2i_t (decide_eq_true ⟨Int32.not_lt.mp (by assumption), (by first | assumption | exact Int32.not_lt.mp (by assumption))⟩) | exact b2i_f (decide_eq_false (fun z => by first | exact Int32.not_lt.mpr z.1 (by assumption) | exact Int32.not_lt.mpr z.2 (by assumption) | exact absurd z.2 (by assumption)))) rfl

theorem k_isByte {lay : List qm_LE} (σ : qm_St) (x : Int32) : Ok lay 1 mX9_isByte [.int x] σ (some (.int (b2i (tn_in x 0 255)))) σ := by
  refine Ok.of (ls := [some (.int x)]) (Nat.le_of_ble_eq_true rfl) rfl ?_
  refine ex_iload_n dX9_isByte_0 rfl rfl ?_
  refine ex_iconst (x := 0) dX9_isByte_1 rfl rfl ?_
  refine ex_sipush (x := 255) dX9_isByte_2 rfl rfl ?_
  refine ex_callS (rest := []) dX9_isByte_5 rfl qp_8_81 rfl rfl rfl (Nat.le_of_ble_eq_true rfl) (k_in _ _ _ _) (Nat.le_of_ble_eq_true rfl) ?_
  show Ex lay _ mX9_isByte 8 [some (.int x)] [.int (b2i (tn_in x 0 255))] σ _ _
  exact ex_zret dX9_isByte_8 rfl (b2i_01 _) rfl rfl

theorem tn_nb_x {T : tn_T} (hT : tn_ok T) : nI (2 ^ tn_L T - 1) &&& (nI (tn_u T) ^^^ (-1)) = nI (tn_nb T) := by
  have h := tn_nb_dec _ (show tn_L T < 8 by have := hT.1; omega) _ (tn_u_lt hT) hT.2.2.1
  rw [nI_1shl (by have := hT.1; omega), show nI (2 ^ tn_L T) - 1 = nI (2 ^ tn_L T - 1) from pk_sub (b := 1) (Nat.two_pow_pos _)] at h
  exact h
theorem k_notBuilt {σ : qm_St} {T : tn_T} (hT : tn_ok T) (h : MR σ T) : Ok qm_lay 2 mX9_notBuilt [.ref 55] σ (some (.int (nI (tn_nb T)))) σ := by
  refine Ok.of (ls := [some (.ref 55)]) (Nat.le_of_ble_eq_true rfl) rfl ?_
  refine ex_aload_n dX9_notBuilt_0 rfl rfl ?_
  refine ex_callV (a := 55) (rest := []) dX9_notBuilt_1 rfl qp_8_183 rfl rfl rfl rfl rfl (Nat.le_of_ble_eq_true rfl) (k_all hT h) (Nat.le_of_ble_eq_true rfl) ?_
  show Ex qm_lay _ mX9_notBuilt 4 [some (.ref 55)] [.int (nI (2 ^ tn_L T - 1))] σ _ _
  refine ex_aload_n dX9_notBuilt_4 rfl rfl ?_
  refine ex_callV (a := 55) (rest := [.int (nI (2 ^ tn_L T - 1))]) dX9_notBuilt_5 rfl qp_8_96 rfl rfl rfl rfl rfl (Nat.le_of_ble_eq_true rfl) (k_builtSet hT h) (Nat.le_of_ble_eq_true rfl) ?_
  show Ex qm_lay _ mX9_notBuilt 8 [some (.ref 55)] [.int (nI (tn_u T)), .int (nI (2 ^ tn_L T - 1))] σ _ _
  refine ex_iconst (x := (-1)) dX9_notBuilt_8 rfl rfl ?_
  refine ex_ixor (z := (nI (tn_u T)) ^^^ ((-1))) dX9_notBuilt_9 rfl (rfl) ?_
  refine ex_iand (z := (nI (2 ^ tn_L T - 1)) &&& ((nI (tn_u T)) ^^^ ((-1)))) dX9_notBuilt_10 rfl (rfl) ?_
  exact ex_iret dX9_notBuilt_11 rfl (by rw [tn_nb_x hT]) rfl

set_option maxHeartbeats 2000000 in
theorem j_count {T : tn_T} {X : gx_T} {P : gt_T} {Im : gi_T} {S : gs_T} (hG : gg_ok (T, X, P, Im, S)) (what : Int32) : J mX8_count mX9_count [.int what] (T, X, P, Im, S) := by
  have hT : tn_ok T := hG.1
  have hX : gx_ok X := hG.2.1
  have hP : gt_ok P := hG.2.2.1
  have hI : gi_ok T (gx_n X) Im := hG.2.2.2.1
  have hS : gs_ok S := hG.2.2.2.2.1
  have hw : tn_w T < gx_n X := hG.2.2.2.2.2
  have hL := hT.1
  have hw6 := hT.2.1
  have hu := tn_u_lt hT
  have hX6 := hX.2.1
  have hP6 := hP.1
  rcases sw_in (n := 6) (by decide) what with ⟨k, hk, rfl⟩ | ho
  · have hk7 : k = 0 ∨ k = 1 ∨ k = 2 ∨ k = 3 ∨ k = 4 ∨ k = 5 ∨ k = 6 := by omega
    rcases hk7 with rfl | rfl | rfl | rfl | rfl | rfl | rfl
    · refine J.q hG (.int (nI (tn_L T))) (fun σ hC => ?_) (fun σ hM => ?_)
      · have h : TR σ 9 18 T := hC.1
        refine Ok.of (ls := [some (.ref 54), some (.int 0)]) (Nat.le_of_ble_eq_true rfl) rfl ?_
        refine ex_iload_n dX8_count_0 rfl rfl ?_
        refine ex_tswI (q := 44) (off := 43) dX8_count_1 (by decide) rfl rfl ?_
        refine ex_aload_n dX8_count_44 rfl rfl ?_
        refine ex_getR (b := 22) dX8_count_45 rfl qp_7_10 rfl rfl ?_
        refine ex_getI (s := 9) (x := nI (tn_L T)) dX8_count_48 rfl qp_7_61 rfl rfl (h.1) ?_
        exact ex_iret dX8_count_51 rfl rfl rfl
      · have h : MR σ T := hM.1
        refine Ok.of (ls := [some (.ref 55), some (.int 0)]) (Nat.le_of_ble_eq_true rfl) rfl ?_
        refine ex_iload_n dX9_count_0 rfl rfl ?_
        refine ex_tswI (q := 44) (off := 43) dX9_count_1 (by decide) rfl rfl ?_
        refine ex_aload_n dX9_count_44 rfl rfl ?_
        refine ex_getI (s := 27) (x := nI (tn_L T)) dX9_count_45 rfl qp_8_78 rfl rfl (h.1.1) ?_
        exact ex_iret dX9_count_48 rfl rfl rfl
    · refine J.q hG (.int (nI (tn_u T))) (fun σ hC => ?_) (fun σ hM => ?_)
      · have h : TR σ 9 18 T := hC.1
        refine Ok.of (ls := [some (.ref 54), some (.int 1)]) (Nat.le_of_ble_eq_true rfl) rfl ?_
        refine ex_iload_n dX8_count_0 rfl rfl ?_
        refine ex_tswI (q := 52) (off := 51) dX8_count_1 (by decide) rfl rfl ?_
        refine ex_aload_n dX8_count_52 rfl rfl ?_
        refine ex_getR (b := 22) dX8_count_53 rfl qp_7_10 rfl rfl ?_
        refine ex_getI (s := 12) (x := nI (tn_u T)) dX8_count_56 rfl qp_7_65 rfl rfl (h.2.2.2.1) ?_
        exact ex_iret dX8_count_59 rfl rfl rfl
      · have h : MR σ T := hM.1
        refine Ok.of (ls := [some (.ref 55), some (.int 1)]) (Nat.le_of_ble_eq_true rfl) rfl ?_
        refine ex_iload_n dX9_count_0 rfl rfl ?_
        refine ex_tswI (q := 49) (off := 48) dX9_count_1 (by decide) rfl rfl ?_
        refine ex_aload_n dX9_count_49 rfl rfl ?_
        refine ex_callV (a := 55) (rest := []) dX9_count_50 rfl qp_8_96 rfl rfl rfl rfl rfl (Nat.le_of_ble_eq_true rfl) (k_builtSet hT h) (Nat.le_of_ble_eq_true rfl) ?_
        show Ex qm_lay _ mX9_count 53 [some (.ref 55), some (.int 1)] [.int (nI (tn_u T))] σ _ _
        exact ex_iret dX9_count_53 rfl rfl rfl
    · refine J.q hG (.int (nI (tn_pc (tn_cb T)))) (fun σ hC => ?_) (fun σ hM => ?_)
      · have h : TR σ 9 18 T := hC.1
        refine Ok.of (ls := [some (.ref 54), some (.int 2)]) (Nat.le_of_ble_eq_true rfl) rfl ?_
        refine ex_iload_n dX8_count_0 rfl rfl ?_
        refine ex_tswI (q := 60) (off := 59) dX8_count_1 (by decide) rfl rfl ?_
        refine ex_aload_n dX8_count_60 rfl rfl ?_
        refine ex_getR (b := 22) dX8_count_61 rfl qp_7_10 rfl rfl ?_
        refine ex_callV (a := 22) (rest := []) dX8_count_64 rfl qp_7_68 rfl rfl rfl rfl rfl (Nat.le_of_ble_eq_true rfl) (c_howMany_0 hT h) (Nat.le_of_ble_eq_true rfl) ?_
        show Ex qm_lay _ mX8_count 67 [some (.ref 54), some (.int 2)] [.int (nI (tn_pc (tn_cb T)))] σ _ _
        exact ex_iret dX8_count_67 rfl rfl rfl
      · have h : MR σ T := hM.1
        refine Ok.of (ls := [some (.ref 55), some (.int 2)]) (Nat.le_of_ble_eq_true rfl) rfl ?_
        refine ex_iload_n dX9_count_0 rfl rfl ?_
        refine ex_tswI (q := 54) (off := 53) dX9_count_1 (by decide) rfl rfl ?_
        refine ex_aload_n dX9_count_54 rfl rfl ?_
        refine ex_callV (a := 55) (rest := []) dX9_count_55 rfl qp_8_99 rfl rfl rfl rfl rfl (Nat.le_of_ble_eq_true rfl) (k_howMany hT h) (Nat.le_of_ble_eq_true rfl) ?_
        show Ex qm_lay _ mX9_count 58 [some (.ref 55), some (.int 2)] [.int (nI (tn_pc (tn_cb T)))] σ _ _
        exact ex_iret dX9_count_58 rfl rfl rfl
    · refine J.q hG (.int (nI (tn_pr T))) (fun σ hC => ?_) (fun σ hM => ?_)
      · have h : TR σ 9 18 T := hC.1
        refine Ok.of (ls := [some (.ref 54), some (.int 3)]) (Nat.le_of_ble_eq_true rfl) rfl ?_
        refine ex_iload_n dX8_count_0 rfl rfl ?_
        refine ex_tswI (q := 68) (off := 67) dX8_count_1 (by decide) rfl rfl ?_
        refine ex_aload_n dX8_count_68 rfl rfl ?_
        refine ex_getR (b := 22) dX8_count_69 rfl qp_7_10 rfl rfl ?_
        refine ex_callV (a := 22) (rest := []) dX8_count_72 rfl qp_7_72 rfl rfl rfl rfl rfl (Nat.le_of_ble_eq_true rfl) (c_pairs_0 hT h) (Nat.le_of_ble_eq_true rfl) ?_
        show Ex qm_lay _ mX8_count 75 [some (.ref 54), some (.int 3)] [.int (nI (tn_pr T))] σ _ _
        exact ex_iret dX8_count_75 rfl rfl rfl
      · have h : MR σ T := hM.1
        refine Ok.of (ls := [some (.ref 55), some (.int 3)]) (Nat.le_of_ble_eq_true rfl) rfl ?_
        refine ex_iload_n dX9_count_0 rfl rfl ?_
        refine ex_tswI (q := 59) (off := 58) dX9_count_1 (by decide) rfl rfl ?_
        refine ex_aload_n dX9_count_59 rfl rfl ?_
        refine ex_callV (a := 55) (rest := []) dX9_count_60 rfl qp_8_102 rfl rfl rfl rfl rfl (Nat.le_of_ble_eq_true rfl) (k_pairs hT h) (Nat.le_of_ble_eq_true rfl) ?_
        show Ex qm_lay _ mX9_count 63 [some (.ref 55), some (.int 3)] [.int (nI (tn_pr T))] σ _ _
        exact ex_iret dX9_count_63 rfl rfl rfl
    · refine J.q hG (.int (nI (gx_n X))) (fun σ hC => ?_) (fun σ hM => ?_)
      · have h : TR σ 9 18 T := hC.1
        refine Ok.of (ls := [some (.ref 54), some (.int 4)]) (Nat.le_of_ble_eq_true rfl) rfl ?_
        refine ex_iload_n dX8_count_0 rfl rfl ?_
        refine ex_tswI (q := 76) (off := 75) dX8_count_1 (by decide) rfl rfl ?_
        refine ex_aload_n dX8_count_76 rfl rfl ?_
        refine ex_getR (b := 4) dX8_count_77 rfl qp_7_29 rfl rfl ?_
        refine ex_getI (s := 7) (x := nI (gx_n X)) dX8_count_80 rfl qp_7_75 rfl rfl (hC.2.1.1) ?_
        exact ex_iret dX8_count_83 rfl rfl rfl
      · have h : MR σ T := hM.1
        refine Ok.of (ls := [some (.ref 55), some (.int 4)]) (Nat.le_of_ble_eq_true rfl) rfl ?_
        refine ex_iload_n dX9_count_0 rfl rfl ?_
        refine ex_tswI (q := 64) (off := 63) dX9_count_1 (by decide) rfl rfl ?_
        refine ex_aload_n dX9_count_64 rfl rfl ?_
        refine ex_getI (s := 30) (x := nI (gx_n X)) dX9_count_65 rfl qp_8_105 rfl rfl (hM.2.1.1) ?_
        exact ex_iret dX9_count_68 rfl rfl rfl
    · refine J.q hG (.int (nI (tn_w T))) (fun σ hC => ?_) (fun σ hM => ?_)
      · have h : TR σ 9 18 T := hC.1
        refine Ok.of (ls := [some (.ref 54), some (.int 5)]) (Nat.le_of_ble_eq_true rfl) rfl ?_
        refine ex_iload_n dX8_count_0 rfl rfl ?_
        refine ex_tswI (q := 84) (off := 83) dX8_count_1 (by decide) rfl rfl ?_
        refine ex_aload_n dX8_count_84 rfl rfl ?_
        refine ex_getR (b := 22) dX8_count_85 rfl qp_7_10 rfl rfl ?_
        refine ex_getI (s := 10) (x := nI (tn_w T)) dX8_count_88 rfl qp_7_78 rfl rfl (h.2.1) ?_
        exact ex_iret dX8_count_91 rfl rfl rfl
      · have h : MR σ T := hM.1
        refine Ok.of (ls := [some (.ref 55), some (.int 5)]) (Nat.le_of_ble_eq_true rfl) rfl ?_
        refine ex_iload_n dX9_count_0 rfl rfl ?_
        refine ex_tswI (q := 69) (off := 68) dX9_count_1 (by decide) rfl rfl ?_
        refine ex_aload_n dX9_count_69 rfl rfl ?_
        refine ex_getI (s := 31) (x := nI (tn_w T)) dX9_count_70 rfl qp_8_108 rfl rfl (h.1.2.1) ?_
        exact ex_iret dX9_count_73 rfl rfl rfl
    · refine J.q hG (.int (nI P.1)) (fun σ hC => ?_) (fun σ hM => ?_)
      · have h : TR σ 9 18 T := hC.1
        refine Ok.of (ls := [some (.ref 54), some (.int 6)]) (Nat.le_of_ble_eq_true rfl) rfl ?_
        refine ex_iload_n dX8_count_0 rfl rfl ?_
        refine ex_tswI (q := 92) (off := 91) dX8_count_1 (by decide) rfl rfl ?_
        refine ex_aload_n dX8_count_92 rfl rfl ?_
        refine ex_getR (b := 4) dX8_count_93 rfl qp_7_29 rfl rfl ?_
        refine ex_getI (s := 8) (x := nI P.1) dX8_count_96 rfl qp_7_81 rfl rfl (hC.2.2.1.1) ?_
        exact ex_iret dX8_count_99 rfl rfl rfl
      · have h : MR σ T := hM.1
        refine Ok.of (ls := [some (.ref 55), some (.int 6)]) (Nat.le_of_ble_eq_true rfl) rfl ?_
        refine ex_iload_n dX9_count_0 rfl rfl ?_
        refine ex_tswI (q := 74) (off := 73) dX9_count_1 (by decide) rfl rfl ?_
        refine ex_aload_n dX9_count_74 rfl rfl ?_
        refine ex_getI (s := 29) (x := nI P.1) dX9_count_75 rfl qp_8_70 rfl rfl (hM.2.2.1.1) ?_
        exact ex_iret dX9_count_78 rfl rfl rfl
  · refine J.q hG (.int ((-2))) (fun σ hC => ?_) (fun σ hM => ?_)
    · have h : TR σ 9 18 T := hC.1
      refine Ok.of (ls := [some (.ref 54), some (.int what)]) (Nat.le_of_ble_eq_true rfl) rfl ?_
      refine ex_iload_n dX8_count_0 rfl rfl ?_
      refine ex_tswO (q := 100) dX8_count_1 (ho) rfl ?_
      refine ex_bipush (x := (-2)) dX8_count_100 rfl rfl ?_
      exact ex_iret dX8_count_102 rfl rfl rfl
    · have h : MR σ T := hM.1
      refine Ok.of (ls := [some (.ref 55), some (.int what)]) (Nat.le_of_ble_eq_true rfl) rfl ?_
      refine ex_iload_n dX9_count_0 rfl rfl ?_
      refine ex_tswO (q := 79) dX9_count_1 (ho) rfl ?_
      refine ex_bipush (x := (-2)) dX9_count_79 rfl rfl ?_
      exact ex_iret dX9_count_81 rfl rfl rfl

set_option maxHeartbeats 2000000 in
theorem j_would {T : tn_T} {X : gx_T} {P : gt_T} {Im : gi_T} {S : gs_T} (hG : gg_ok (T, X, P, Im, S)) (l : Int32) : J mX8_would mX9_would [.int l] (T, X, P, Im, S) := by
  have hT : tn_ok T := hG.1
  have hX : gx_ok X := hG.2.1
  have hP : gt_ok P := hG.2.2.1
  have hI : gi_ok T (gx_n X) Im := hG.2.2.2.1
  have hS : gs_ok S := hG.2.2.2.2.1
  have hw : tn_w T < gx_n X := hG.2.2.2.2.2
  have hL := hT.1
  have hw6 := hT.2.1
  have hu := tn_u_lt hT
  have hX6 := hX.2.1
  have hP6 := hP.1
  by_cases c1 : tn_has T l = true
  · obtain ⟨k, hk, rfl⟩ := tn_has_of hT c1
    have hb7 := tn_b_lt hT hk
    have hk5 := (hT.2.2.2 k hk).1
    refine J.q hG (.int (nI (tn_wd T k))) (fun σ hC => ?_) (fun σ hM => ?_)
    · have h : TR σ 9 18 T := hC.1
      refine Ok.of (ls := [some (.ref 54), some (.int (nI k))]) (Nat.le_of_ble_eq_true rfl) rfl ?_
      refine ex_aload_n dX8_would_0 rfl rfl ?_
      refine ex_getR (b := 22) dX8_would_1 rfl qp_7_10 rfl rfl ?_
      refine ex_iload_n dX8_would_4 rfl rfl ?_
      refine ex_callV (a := 22) (rest := []) dX8_would_5 rfl qp_7_95 rfl rfl rfl rfl rfl (Nat.le_of_ble_eq_true rfl) (c_hasLot_0n hT h (by omega)) (Nat.le_of_ble_eq_true rfl) ?_
      show Ex qm_lay _ mX8_would 8 [some (.ref 54), some (.int (nI k))] [.int 1] σ _ _
      refine ex_if_eq (q := 22) (q2 := 11) dX8_would_8 rfl rfl (fun hh => absurd hh (by decide)) (fun _ => ?_)
      refine ex_aload_n dX8_would_11 rfl rfl ?_
      refine ex_getR (b := 22) dX8_would_12 rfl qp_7_10 rfl rfl ?_
      refine ex_iload_n dX8_would_15 rfl rfl ?_
      refine ex_callV (a := 22) (rest := []) dX8_would_16 rfl qp_7_136 rfl rfl rfl rfl rfl (Nat.le_of_ble_eq_true rfl) (c_wouldTake_0 hT h (by omega)) (Nat.le_of_ble_eq_true rfl) ?_
      show Ex qm_lay _ mX8_would 19 [some (.ref 54), some (.int (nI k))] [.int (nI (tn_wd T k))] σ _ _
      refine ex_goto (q := 24) dX8_would_19 rfl ?_
      exact ex_iret dX8_would_24 rfl rfl rfl
    · have h : MR σ T := hM.1
      refine Ok.of (ls := [some (.ref 55), some (.int (nI k))]) (Nat.le_of_ble_eq_true rfl) rfl ?_
      refine ex_aload_n dX9_would_0 rfl rfl ?_
      refine ex_iload_n dX9_would_1 rfl rfl ?_
      refine ex_callV (a := 55) (rest := []) dX9_would_2 rfl qp_8_85 rfl rfl rfl rfl rfl (Nat.le_of_ble_eq_true rfl) (k_isLot_n hT h (by omega)) (Nat.le_of_ble_eq_true rfl) ?_
      show Ex qm_lay _ mX9_would 5 [some (.ref 55), some (.int (nI k))] [.int 1] σ _ _
      refine ex_if_eq (q := 16) (q2 := 8) dX9_would_5 rfl rfl (fun hh => absurd hh (by decide)) (fun _ => ?_)
      refine ex_aload_n dX9_would_8 rfl rfl ?_
      refine ex_iload_n dX9_would_9 rfl rfl ?_
      refine ex_callV (a := 55) (rest := []) dX9_would_10 rfl qp_8_202 rfl rfl rfl rfl rfl (Nat.le_of_ble_eq_true rfl) (k_wouldTake hT h (by omega)) (Nat.le_of_ble_eq_true rfl) ?_
      show Ex qm_lay _ mX9_would 13 [some (.ref 55), some (.int (nI k))] [.int (nI (tn_wd T k))] σ _ _
      refine ex_goto (q := 18) dX9_would_13 rfl ?_
      exact ex_iret dX9_would_18 rfl rfl rfl
  · refine J.q hG (.int ((-5))) (fun σ hC => ?_) (fun σ hM => ?_)
    · have h : TR σ 9 18 T := hC.1
      refine Ok.of (ls := [some (.ref 54), some (.int l)]) (Nat.le_of_ble_eq_true rfl) rfl ?_
      refine ex_aload_n dX8_would_0 rfl rfl ?_
      refine ex_getR (b := 22) dX8_would_1 rfl qp_7_10 rfl rfl ?_
      refine ex_iload_n dX8_would_4 rfl rfl ?_
      refine ex_callV (a := 22) (rest := []) dX8_would_5 rfl qp_7_95 rfl rfl rfl rfl rfl (Nat.le_of_ble_eq_true rfl) (c_hasLot_0 hT h l) (Nat.le_of_ble_eq_true rfl) ?_
      show Ex qm_lay _ mX8_would 8 [some (.ref 54), some (.int l)] [.int (b2i (tn_has T l))] σ _ _
      refine ex_if_eq (q := 22) (q2 := 11) dX8_would_8 rfl rfl (fun _ => ?_) (fun hh => absurd (b2i_0.mpr (by simpa using c1)) hh)
      refine ex_bipush (x := (-5)) dX8_would_22 rfl rfl ?_
      exact ex_iret dX8_would_24 rfl rfl rfl
    · have h : MR σ T := hM.1
      refine Ok.of (ls := [some (.ref 55), some (.int l)]) (Nat.le_of_ble_eq_true rfl) rfl ?_
      refine ex_aload_n dX9_would_0 rfl rfl ?_
      refine ex_iload_n dX9_would_1 rfl rfl ?_
      refine ex_callV (a := 55) (rest := []) dX9_would_2 rfl qp_8_85 rfl rfl rfl rfl rfl (Nat.le_of_ble_eq_true rfl) (k_isLot hT h l) (Nat.le_of_ble_eq_true rfl) ?_
      show Ex qm_lay _ mX9_would 5 [some (.ref 55), some (.int l)] [.int (b2i (tn_has T l))] σ _ _
      refine ex_if_eq (q := 16) (q2 := 8) dX9_would_5 rfl rfl (fun _ => ?_) (fun hh => absurd (b2i_0.mpr (by simpa using c1)) hh)
      refine ex_bipush (x := (-5)) dX9_would_16 rfl rfl ?_
      exact ex_iret dX9_would_18 rfl rfl rfl

set_option maxHeartbeats 2000000 in
theorem j_told {T : tn_T} {X : gx_T} {P : gt_T} {Im : gi_T} {S : gs_T} (hG : gg_ok (T, X, P, Im, S)) (l what : Int32) : J mX8_told mX9_told [.int l, .int what] (T, X, P, Im, S) := by
  have hT : tn_ok T := hG.1
  have hX : gx_ok X := hG.2.1
  have hP : gt_ok P := hG.2.2.1
  have hI : gi_ok T (gx_n X) Im := hG.2.2.2.1
  have hS : gs_ok S := hG.2.2.2.2.1
  have hw : tn_w T < gx_n X := hG.2.2.2.2.2
  have hL := hT.1
  have hw6 := hT.2.1
  have hu := tn_u_lt hT
  have hX6 := hX.2.1
  have hP6 := hP.1
  by_cases c1 : tn_has T l = true
  · obtain ⟨k, hk, rfl⟩ := tn_has_of hT c1
    have hb7 := tn_b_lt hT hk
    have hk5 := (hT.2.2.2 k hk).1
    rcases sw_in (n := 4) (by decide) what with ⟨q, hq, rfl⟩ | ho
    · have hq5 : q = 0 ∨ q = 1 ∨ q = 2 ∨ q = 3 ∨ q = 4 := by omega
      rcases hq5 with rfl | rfl | rfl | rfl | rfl
      · refine J.q hG (.int (nI (tn_k T k))) (fun σ hC => ?_) (fun σ hM => ?_)
        · have h : TR σ 9 18 T := hC.1
          refine Ok.of (ls := [some (.ref 54), some (.int (nI k)), some (.int 0)]) (Nat.le_of_ble_eq_true rfl) rfl ?_
          refine ex_aload_n dX8_told_0 rfl rfl ?_
          refine ex_getR (b := 22) dX8_told_1 rfl qp_7_10 rfl rfl ?_
          refine ex_iload_n dX8_told_4 rfl rfl ?_
          refine ex_callV (a := 22) (rest := []) dX8_told_5 rfl qp_7_95 rfl rfl rfl rfl rfl (Nat.le_of_ble_eq_true rfl) (c_hasLot_0n hT h (by omega)) (Nat.le_of_ble_eq_true rfl) ?_
          show Ex qm_lay _ mX8_told 8 [some (.ref 54), some (.int (nI k)), some (.int 0)] [.int 1] σ _ _
          refine ex_if_ne (q := 14) (q2 := 11) dX8_told_8 rfl rfl (fun _ => ?_) (fun hh => absurd (by decide) hh)
          refine ex_iload_n dX8_told_14 rfl rfl ?_
          refine ex_tswI (q := 48) (off := 33) dX8_told_15 (by decide) rfl rfl ?_
          refine ex_aload_n dX8_told_48 rfl rfl ?_
          refine ex_getR (b := 22) dX8_told_49 rfl qp_7_10 rfl rfl ?_
          refine ex_getR (b := 23) dX8_told_52 rfl qp_7_113 rfl rfl ?_
          refine ex_iload_n dX8_told_55 rfl rfl ?_
          refine ex_iaload (k := k) (x := nI (tn_k T k)) dX8_told_56 rfl rfl (rfl) (by omega) (by decide) (TR.kk h (by omega)) ?_
          exact ex_iret dX8_told_57 rfl rfl rfl
        · have h : MR σ T := hM.1
          refine Ok.of (ls := [some (.ref 55), some (.int (nI k)), some (.int 0)]) (Nat.le_of_ble_eq_true rfl) rfl ?_
          refine ex_aload_n dX9_told_0 rfl rfl ?_
          refine ex_iload_n dX9_told_1 rfl rfl ?_
          refine ex_callV (a := 55) (rest := []) dX9_told_2 rfl qp_8_85 rfl rfl rfl rfl rfl (Nat.le_of_ble_eq_true rfl) (k_isLot_n hT h (by omega)) (Nat.le_of_ble_eq_true rfl) ?_
          show Ex qm_lay _ mX9_told 5 [some (.ref 55), some (.int (nI k)), some (.int 0)] [.int 1] σ _ _
          refine ex_if_ne (q := 11) (q2 := 8) dX9_told_5 rfl rfl (fun _ => ?_) (fun hh => absurd (by decide) hh)
          refine ex_iload_n dX9_told_11 rfl rfl ?_
          refine ex_tswI (q := 48) (off := 36) dX9_told_12 (by decide) rfl rfl ?_
          refine ex_aload_n dX9_told_48 rfl rfl ?_
          refine ex_getR (b := 56) dX9_told_49 rfl qp_8_7 rfl rfl ?_
          refine ex_iload_n dX9_told_52 rfl rfl ?_
          refine ex_iaload (k := k) (x := nI (tn_k T k)) dX9_told_53 rfl rfl (rfl) (by omega) (by decide) (MR.kk h (by omega)) ?_
          exact ex_iret dX9_told_54 rfl rfl rfl
      · refine J.q hG (.int (nI (tn_m T k))) (fun σ hC => ?_) (fun σ hM => ?_)
        · have h : TR σ 9 18 T := hC.1
          refine Ok.of (ls := [some (.ref 54), some (.int (nI k)), some (.int 1)]) (Nat.le_of_ble_eq_true rfl) rfl ?_
          refine ex_aload_n dX8_told_0 rfl rfl ?_
          refine ex_getR (b := 22) dX8_told_1 rfl qp_7_10 rfl rfl ?_
          refine ex_iload_n dX8_told_4 rfl rfl ?_
          refine ex_callV (a := 22) (rest := []) dX8_told_5 rfl qp_7_95 rfl rfl rfl rfl rfl (Nat.le_of_ble_eq_true rfl) (c_hasLot_0n hT h (by omega)) (Nat.le_of_ble_eq_true rfl) ?_
          show Ex qm_lay _ mX8_told 8 [some (.ref 54), some (.int (nI k)), some (.int 1)] [.int 1] σ _ _
          refine ex_if_ne (q := 14) (q2 := 11) dX8_told_8 rfl rfl (fun _ => ?_) (fun hh => absurd (by decide) hh)
          refine ex_iload_n dX8_told_14 rfl rfl ?_
          refine ex_tswI (q := 58) (off := 43) dX8_told_15 (by decide) rfl rfl ?_
          refine ex_aload_n dX8_told_58 rfl rfl ?_
          refine ex_getR (b := 22) dX8_told_59 rfl qp_7_10 rfl rfl ?_
          refine ex_getR (b := 24) dX8_told_62 rfl qp_7_117 rfl rfl ?_
          refine ex_iload_n dX8_told_65 rfl rfl ?_
          refine ex_iaload (k := k) (x := nI (tn_m T k)) dX8_told_66 rfl rfl (rfl) (by omega) (by decide) (TR.mm h (by omega)) ?_
          exact ex_iret dX8_told_67 rfl rfl rfl
        · have h : MR σ T := hM.1
          refine Ok.of (ls := [some (.ref 55), some (.int (nI k)), some (.int 1)]) (Nat.le_of_ble_eq_true rfl) rfl ?_
          refine ex_aload_n dX9_told_0 rfl rfl ?_
          refine ex_iload_n dX9_told_1 rfl rfl ?_
          refine ex_callV (a := 55) (rest := []) dX9_told_2 rfl qp_8_85 rfl rfl rfl rfl rfl (Nat.le_of_ble_eq_true rfl) (k_isLot_n hT h (by omega)) (Nat.le_of_ble_eq_true rfl) ?_
          show Ex qm_lay _ mX9_told 5 [some (.ref 55), some (.int (nI k)), some (.int 1)] [.int 1] σ _ _
          refine ex_if_ne (q := 11) (q2 := 8) dX9_told_5 rfl rfl (fun _ => ?_) (fun hh => absurd (by decide) hh)
          refine ex_iload_n dX9_told_11 rfl rfl ?_
          refine ex_tswI (q := 55) (off := 43) dX9_told_12 (by decide) rfl rfl ?_
          refine ex_aload_n dX9_told_55 rfl rfl ?_
          refine ex_getR (b := 57) dX9_told_56 rfl qp_8_13 rfl rfl ?_
          refine ex_iload_n dX9_told_59 rfl rfl ?_
          refine ex_iaload (k := k) (x := nI (tn_m T k)) dX9_told_60 rfl rfl (rfl) (by omega) (by decide) (MR.mm h (by omega)) ?_
          exact ex_iret dX9_told_61 rfl rfl rfl
      · refine J.q hG (.int (nI (tn_b T k))) (fun σ hC => ?_) (fun σ hM => ?_)
        · have h : TR σ 9 18 T := hC.1
          refine Ok.of (ls := [some (.ref 54), some (.int (nI k)), some (.int 2)]) (Nat.le_of_ble_eq_true rfl) rfl ?_
          refine ex_aload_n dX8_told_0 rfl rfl ?_
          refine ex_getR (b := 22) dX8_told_1 rfl qp_7_10 rfl rfl ?_
          refine ex_iload_n dX8_told_4 rfl rfl ?_
          refine ex_callV (a := 22) (rest := []) dX8_told_5 rfl qp_7_95 rfl rfl rfl rfl rfl (Nat.le_of_ble_eq_true rfl) (c_hasLot_0n hT h (by omega)) (Nat.le_of_ble_eq_true rfl) ?_
          show Ex qm_lay _ mX8_told 8 [some (.ref 54), some (.int (nI k)), some (.int 2)] [.int 1] σ _ _
          refine ex_if_ne (q := 14) (q2 := 11) dX8_told_8 rfl rfl (fun _ => ?_) (fun hh => absurd (by decide) hh)
          refine ex_iload_n dX8_told_14 rfl rfl ?_
          refine ex_tswI (q := 68) (off := 53) dX8_told_15 (by decide) rfl rfl ?_
          refine ex_aload_n dX8_told_68 rfl rfl ?_
          refine ex_getR (b := 22) dX8_told_69 rfl qp_7_10 rfl rfl ?_
          refine ex_getR (b := 25) dX8_told_72 rfl qp_7_120 rfl rfl ?_
          refine ex_iload_n dX8_told_75 rfl rfl ?_
          refine ex_iaload (k := k) (x := nI (tn_b T k)) dX8_told_76 rfl rfl (rfl) (by omega) (by decide) (TR.bb h (by omega)) ?_
          exact ex_iret dX8_told_77 rfl rfl rfl
        · have h : MR σ T := hM.1
          refine Ok.of (ls := [some (.ref 55), some (.int (nI k)), some (.int 2)]) (Nat.le_of_ble_eq_true rfl) rfl ?_
          refine ex_aload_n dX9_told_0 rfl rfl ?_
          refine ex_iload_n dX9_told_1 rfl rfl ?_
          refine ex_callV (a := 55) (rest := []) dX9_told_2 rfl qp_8_85 rfl rfl rfl rfl rfl (Nat.le_of_ble_eq_true rfl) (k_isLot_n hT h (by omega)) (Nat.le_of_ble_eq_true rfl) ?_
          show Ex qm_lay _ mX9_told 5 [some (.ref 55), some (.int (nI k)), some (.int 2)] [.int 1] σ _ _
          refine ex_if_ne (q := 11) (q2 := 8) dX9_told_5 rfl rfl (fun _ => ?_) (fun hh => absurd (by decide) hh)
          refine ex_iload_n dX9_told_11 rfl rfl ?_
          refine ex_tswI (q := 62) (off := 50) dX9_told_12 (by decide) rfl rfl ?_
          refine ex_aload_n dX9_told_62 rfl rfl ?_
          refine ex_getR (b := 58) dX9_told_63 rfl qp_8_16 rfl rfl ?_
          refine ex_iload_n dX9_told_66 rfl rfl ?_
          refine ex_iaload (k := k) (x := nI (tn_b T k)) dX9_told_67 rfl rfl (rfl) (by omega) (by decide) (MR.bb h (by omega)) ?_
          exact ex_iret dX9_told_68 rfl rfl rfl
      · refine J.q hG (.int (tn_cv T k)) (fun σ hC => ?_) (fun σ hM => ?_)
        · have h : TR σ 9 18 T := hC.1
          refine Ok.of (ls := [some (.ref 54), some (.int (nI k)), some (.int 3)]) (Nat.le_of_ble_eq_true rfl) rfl ?_
          refine ex_aload_n dX8_told_0 rfl rfl ?_
          refine ex_getR (b := 22) dX8_told_1 rfl qp_7_10 rfl rfl ?_
          refine ex_iload_n dX8_told_4 rfl rfl ?_
          refine ex_callV (a := 22) (rest := []) dX8_told_5 rfl qp_7_95 rfl rfl rfl rfl rfl (Nat.le_of_ble_eq_true rfl) (c_hasLot_0n hT h (by omega)) (Nat.le_of_ble_eq_true rfl) ?_
          show Ex qm_lay _ mX8_told 8 [some (.ref 54), some (.int (nI k)), some (.int 3)] [.int 1] σ _ _
          refine ex_if_ne (q := 14) (q2 := 11) dX8_told_8 rfl rfl (fun _ => ?_) (fun hh => absurd (by decide) hh)
          refine ex_iload_n dX8_told_14 rfl rfl ?_
          refine ex_tswI (q := 78) (off := 63) dX8_told_15 (by decide) rfl rfl ?_
          refine ex_aload_n dX8_told_78 rfl rfl ?_
          refine ex_getR (b := 22) dX8_told_79 rfl qp_7_10 rfl rfl ?_
          refine ex_iload_n dX8_told_82 rfl rfl ?_
          refine ex_callV (a := 22) (rest := []) dX8_told_83 rfl qp_7_123 rfl rfl rfl rfl rfl (Nat.le_of_ble_eq_true rfl) (c_colourOf_0n hT h (by omega)) (Nat.le_of_ble_eq_true rfl) ?_
          show Ex qm_lay _ mX8_told 86 [some (.ref 54), some (.int (nI k)), some (.int 3)] [.int (tn_cv T k)] σ _ _
          exact ex_iret dX8_told_86 rfl rfl rfl
        · have h : MR σ T := hM.1
          refine Ok.of (ls := [some (.ref 55), some (.int (nI k)), some (.int 3)]) (Nat.le_of_ble_eq_true rfl) rfl ?_
          refine ex_aload_n dX9_told_0 rfl rfl ?_
          refine ex_iload_n dX9_told_1 rfl rfl ?_
          refine ex_callV (a := 55) (rest := []) dX9_told_2 rfl qp_8_85 rfl rfl rfl rfl rfl (Nat.le_of_ble_eq_true rfl) (k_isLot_n hT h (by omega)) (Nat.le_of_ble_eq_true rfl) ?_
          show Ex qm_lay _ mX9_told 5 [some (.ref 55), some (.int (nI k)), some (.int 3)] [.int 1] σ _ _
          refine ex_if_ne (q := 11) (q2 := 8) dX9_told_5 rfl rfl (fun _ => ?_) (fun hh => absurd (by decide) hh)
          refine ex_iload_n dX9_told_11 rfl rfl ?_
          refine ex_tswI (q := 69) (off := 57) dX9_told_12 (by decide) rfl rfl ?_
          refine ex_aload_n dX9_told_69 rfl rfl ?_
          refine ex_getR (b := 59) dX9_told_70 rfl qp_8_19 rfl rfl ?_
          refine ex_iload_n dX9_told_73 rfl rfl ?_
          refine ex_iaload (k := k) (x := tn_cv T k) dX9_told_74 rfl rfl (rfl) (by omega) (by decide) (MR.cc h (by omega)) ?_
          exact ex_iret dX9_told_75 rfl rfl rfl
      · refine J.q hG (.int (tn_sv T k)) (fun σ hC => ?_) (fun σ hM => ?_)
        · have h : TR σ 9 18 T := hC.1
          refine Ok.of (ls := [some (.ref 54), some (.int (nI k)), some (.int 4)]) (Nat.le_of_ble_eq_true rfl) rfl ?_
          refine ex_aload_n dX8_told_0 rfl rfl ?_
          refine ex_getR (b := 22) dX8_told_1 rfl qp_7_10 rfl rfl ?_
          refine ex_iload_n dX8_told_4 rfl rfl ?_
          refine ex_callV (a := 22) (rest := []) dX8_told_5 rfl qp_7_95 rfl rfl rfl rfl rfl (Nat.le_of_ble_eq_true rfl) (c_hasLot_0n hT h (by omega)) (Nat.le_of_ble_eq_true rfl) ?_
          show Ex qm_lay _ mX8_told 8 [some (.ref 54), some (.int (nI k)), some (.int 4)] [.int 1] σ _ _
          refine ex_if_ne (q := 14) (q2 := 11) dX8_told_8 rfl rfl (fun _ => ?_) (fun hh => absurd (by decide) hh)
          refine ex_iload_n dX8_told_14 rfl rfl ?_
          refine ex_tswI (q := 87) (off := 72) dX8_told_15 (by decide) rfl rfl ?_
          refine ex_aload_n dX8_told_87 rfl rfl ?_
          refine ex_getR (b := 22) dX8_told_88 rfl qp_7_10 rfl rfl ?_
          refine ex_iload_n dX8_told_91 rfl rfl ?_
          refine ex_callV (a := 22) (rest := []) dX8_told_92 rfl qp_7_127 rfl rfl rfl rfl rfl (Nat.le_of_ble_eq_true rfl) (c_isBuilt_0n hT h (by omega)) (Nat.le_of_ble_eq_true rfl) ?_
          show Ex qm_lay _ mX8_told 95 [some (.ref 54), some (.int (nI k)), some (.int 4)] [.int (b2i (Nat.testBit (tn_u T) k))] σ _ _
          refine ex_if_eq (q := 110) (q2 := 98) dX8_told_95 rfl rfl (fun h95 => ?_) (fun h95 => ?_)
          · have hb95 : (Nat.testBit (tn_u T) k) = false := b2i_0.mp h95
            refine ex_iconst (x := (-1)) dX8_told_110 rfl rfl ?_
            exact ex_iret dX8_told_111 rfl (by first | (rw [tn_sv, if_pos hb95]) | (rw [tn_sv, if_neg (by rw [hb95]; decide)])) rfl
          · have hb95 : (Nat.testBit (tn_u T) k) = true := b2i_n0.mp h95
            refine ex_aload_n dX8_told_98 rfl rfl ?_
            refine ex_getR (b := 22) dX8_told_99 rfl qp_7_10 rfl rfl ?_
            refine ex_getR (b := 27) dX8_told_102 rfl qp_7_130 rfl rfl ?_
            refine ex_iload_n dX8_told_105 rfl rfl ?_
            refine ex_iaload (k := k) (x := tn_s T k) dX8_told_106 rfl rfl (rfl) (by omega) (by decide) (TR.ss h hk hb95) ?_
            refine ex_goto (q := 111) dX8_told_107 rfl ?_
            exact ex_iret dX8_told_111 rfl (by first | (rw [tn_sv, if_pos hb95]) | (rw [tn_sv, if_neg (by rw [hb95]; decide)])) rfl
        · have h : MR σ T := hM.1
          refine Ok.of (ls := [some (.ref 55), some (.int (nI k)), some (.int 4)]) (Nat.le_of_ble_eq_true rfl) rfl ?_
          refine ex_aload_n dX9_told_0 rfl rfl ?_
          refine ex_iload_n dX9_told_1 rfl rfl ?_
          refine ex_callV (a := 55) (rest := []) dX9_told_2 rfl qp_8_85 rfl rfl rfl rfl rfl (Nat.le_of_ble_eq_true rfl) (k_isLot_n hT h (by omega)) (Nat.le_of_ble_eq_true rfl) ?_
          show Ex qm_lay _ mX9_told 5 [some (.ref 55), some (.int (nI k)), some (.int 4)] [.int 1] σ _ _
          refine ex_if_ne (q := 11) (q2 := 8) dX9_told_5 rfl rfl (fun _ => ?_) (fun hh => absurd (by decide) hh)
          refine ex_iload_n dX9_told_11 rfl rfl ?_
          refine ex_tswI (q := 76) (off := 64) dX9_told_12 (by decide) rfl rfl ?_
          refine ex_aload_n dX9_told_76 rfl rfl ?_
          refine ex_getR (b := 60) dX9_told_77 rfl qp_8_22 rfl rfl ?_
          refine ex_iload_n dX9_told_80 rfl rfl ?_
          refine ex_iaload (k := k) (x := tn_sv T k) dX9_told_81 rfl rfl (rfl) (by omega) (by decide) (MR.ss h (by omega)) ?_
          exact ex_iret dX9_told_82 rfl rfl rfl
    · refine J.q hG (.int ((-7))) (fun σ hC => ?_) (fun σ hM => ?_)
      · have h : TR σ 9 18 T := hC.1
        refine Ok.of (ls := [some (.ref 54), some (.int (nI k)), some (.int what)]) (Nat.le_of_ble_eq_true rfl) rfl ?_
        refine ex_aload_n dX8_told_0 rfl rfl ?_
        refine ex_getR (b := 22) dX8_told_1 rfl qp_7_10 rfl rfl ?_
        refine ex_iload_n dX8_told_4 rfl rfl ?_
        refine ex_callV (a := 22) (rest := []) dX8_told_5 rfl qp_7_95 rfl rfl rfl rfl rfl (Nat.le_of_ble_eq_true rfl) (c_hasLot_0n hT h (by omega)) (Nat.le_of_ble_eq_true rfl) ?_
        show Ex qm_lay _ mX8_told 8 [some (.ref 54), some (.int (nI k)), some (.int what)] [.int 1] σ _ _
        refine ex_if_ne (q := 14) (q2 := 11) dX8_told_8 rfl rfl (fun _ => ?_) (fun hh => absurd (by decide) hh)
        refine ex_iload_n dX8_told_14 rfl rfl ?_
        refine ex_tswO (q := 112) dX8_told_15 (ho) rfl ?_
        refine ex_bipush (x := (-7)) dX8_told_112 rfl rfl ?_
        exact ex_iret dX8_told_114 rfl rfl rfl
      · have h : MR σ T := hM.1
        refine Ok.of (ls := [some (.ref 55), some (.int (nI k)), some (.int what)]) (Nat.le_of_ble_eq_true rfl) rfl ?_
        refine ex_aload_n dX9_told_0 rfl rfl ?_
        refine ex_iload_n dX9_told_1 rfl rfl ?_
        refine ex_callV (a := 55) (rest := []) dX9_told_2 rfl qp_8_85 rfl rfl rfl rfl rfl (Nat.le_of_ble_eq_true rfl) (k_isLot_n hT h (by omega)) (Nat.le_of_ble_eq_true rfl) ?_
        show Ex qm_lay _ mX9_told 5 [some (.ref 55), some (.int (nI k)), some (.int what)] [.int 1] σ _ _
        refine ex_if_ne (q := 11) (q2 := 8) dX9_told_5 rfl rfl (fun _ => ?_) (fun hh => absurd (by decide) hh)
        refine ex_iload_n dX9_told_11 rfl rfl ?_
        refine ex_tswO (q := 83) dX9_told_12 (ho) rfl ?_
        refine ex_bipush (x := (-7)) dX9_told_83 rfl rfl ?_
        exact ex_iret dX9_told_85 rfl rfl rfl
  · refine J.q hG (.int ((-5))) (fun σ hC => ?_) (fun σ hM => ?_)
    · have h : TR σ 9 18 T := hC.1
      refine Ok.of (ls := [some (.ref 54), some (.int l), some (.int what)]) (Nat.le_of_ble_eq_true rfl) rfl ?_
      refine ex_aload_n dX8_told_0 rfl rfl ?_
      refine ex_getR (b := 22) dX8_told_1 rfl qp_7_10 rfl rfl ?_
      refine ex_iload_n dX8_told_4 rfl rfl ?_
      refine ex_callV (a := 22) (rest := []) dX8_told_5 rfl qp_7_95 rfl rfl rfl rfl rfl (Nat.le_of_ble_eq_true rfl) (c_hasLot_0 hT h l) (Nat.le_of_ble_eq_true rfl) ?_
      show Ex qm_lay _ mX8_told 8 [some (.ref 54), some (.int l), some (.int what)] [.int (b2i (tn_has T l))] σ _ _
      refine ex_if_ne (q := 14) (q2 := 11) dX8_told_8 rfl rfl (fun hh => absurd hh (fun zz => zz (b2i_0.mpr (by simpa using c1)))) (fun _ => ?_)
      refine ex_bipush (x := (-5)) dX8_told_11 rfl rfl ?_
      exact ex_iret dX8_told_13 rfl rfl rfl
    · have h : MR σ T := hM.1
      refine Ok.of (ls := [some (.ref 55), some (.int l), some (.int what)]) (Nat.le_of_ble_eq_true rfl) rfl ?_
      refine ex_aload_n dX9_told_0 rfl rfl ?_
      refine ex_iload_n dX9_told_1 rfl rfl ?_
      refine ex_callV (a := 55) (rest := []) dX9_told_2 rfl qp_8_85 rfl rfl rfl rfl rfl (Nat.le_of_ble_eq_true rfl) (k_isLot hT h l) (Nat.le_of_ble_eq_true rfl) ?_
      show Ex qm_lay _ mX9_told 5 [some (.ref 55), some (.int l), some (.int what)] [.int (b2i (tn_has T l))] σ _ _
      refine ex_if_ne (q := 11) (q2 := 8) dX9_told_5 rfl rfl (fun hh => absurd hh (fun zz => zz (b2i_0.mpr (by simpa using c1)))) (fun _ => ?_)
      refine ex_bipush (x := (-5)) dX9_told_8 rfl rfl ?_
      exact ex_iret dX9_told_10 rfl rfl rfl

theorem tn_put_bit {T : tn_T} {l q : Nat} (c : Nat) (h : q = l ∨ (tn_u T).testBit q = true) : (tn_u (tn_put T l c)).testBit q = true := by
  show (tn_u T ||| 2 ^ l).testBit q = true
  rw [Nat.testBit_or, Nat.testBit_two_pow]
  rcases h with rfl | h
  · simp
  · simp [h]
set_option maxHeartbeats 2000000 in
theorem j_build {T : tn_T} {X : gx_T} {P : gt_T} {Im : gi_T} {S : gs_T} (hG : gg_ok (T, X, P, Im, S)) (l : Int32) : J mX8_build mX9_build [.int l] (T, X, P, Im, S) := by
  have hT : tn_ok T := hG.1
  have hX : gx_ok X := hG.2.1
  have hP : gt_ok P := hG.2.2.1
  have hI : gi_ok T (gx_n X) Im := hG.2.2.2.1
  have hS : gs_ok S := hG.2.2.2.2.1
  have hw : tn_w T < gx_n X := hG.2.2.2.2.2
  have hL := hT.1
  have hw6 := hT.2.1
  have hu := tn_u_lt hT
  have hX6 := hX.2.1
  have hP6 := hP.1
  by_cases c1 : tn_has T l = true
  · obtain ⟨k, hk, rfl⟩ := tn_has_of hT c1
    have hb7 := tn_b_lt hT hk
    have hk5 := (hT.2.2.2 k hk).1
    by_cases c2 : (tn_u T).testBit k = true
    · refine J.q hG (.int ((-3))) (fun σ hC => ?_) (fun σ hM => ?_)
      · have h : TR σ 9 18 T := hC.1
        refine Ok.of (ls := [some (.ref 54), some (.int (nI k))]) (Nat.le_of_ble_eq_true rfl) rfl ?_
        refine ex_aload_n dX8_build_0 rfl rfl ?_
        refine ex_getR (b := 22) dX8_build_1 rfl qp_7_10 rfl rfl ?_
        refine ex_iload_n dX8_build_4 rfl rfl ?_
        refine ex_callV (a := 22) (rest := []) dX8_build_5 rfl qp_7_95 rfl rfl rfl rfl rfl (Nat.le_of_ble_eq_true rfl) (c_hasLot_0n hT h (by omega)) (Nat.le_of_ble_eq_true rfl) ?_
        show Ex qm_lay _ mX8_build 8 [some (.ref 54), some (.int (nI k))] [.int 1] σ _ _
        refine ex_if_ne (q := 14) (q2 := 11) dX8_build_8 rfl rfl (fun _ => ?_) (fun hh => absurd (by decide) hh)
        refine ex_aload_n dX8_build_14 rfl rfl ?_
        refine ex_getR (b := 22) dX8_build_15 rfl qp_7_10 rfl rfl ?_
        refine ex_iload_n dX8_build_18 rfl rfl ?_
        refine ex_callV (a := 22) (rest := []) dX8_build_19 rfl qp_7_127 rfl rfl rfl rfl rfl (Nat.le_of_ble_eq_true rfl) (c_isBuilt_0n hT h (by omega)) (Nat.le_of_ble_eq_true rfl) ?_
        show Ex qm_lay _ mX8_build 22 [some (.ref 54), some (.int (nI k))] [.int (b2i (Nat.testBit (tn_u T) k))] σ _ _
        refine ex_if_eq (q := 28) (q2 := 25) dX8_build_22 rfl rfl (fun hh => absurd hh (b2i_n0.mpr (c2))) (fun _ => ?_)
        refine ex_bipush (x := (-3)) dX8_build_25 rfl rfl ?_
        exact ex_iret dX8_build_27 rfl rfl rfl
      · have h : MR σ T := hM.1
        refine Ok.of (ls := [some (.ref 55), some (.int (nI k))]) (Nat.le_of_ble_eq_true rfl) rfl ?_
        refine ex_aload_n dX9_build_0 rfl rfl ?_
        refine ex_iload_n dX9_build_1 rfl rfl ?_
        refine ex_callV (a := 55) (rest := []) dX9_build_2 rfl qp_8_85 rfl rfl rfl rfl rfl (Nat.le_of_ble_eq_true rfl) (k_isLot_n hT h (by omega)) (Nat.le_of_ble_eq_true rfl) ?_
        show Ex qm_lay _ mX9_build 5 [some (.ref 55), some (.int (nI k))] [.int 1] σ _ _
        refine ex_if_ne (q := 11) (q2 := 8) dX9_build_5 rfl rfl (fun _ => ?_) (fun hh => absurd (by decide) hh)
        refine ex_aload_n dX9_build_11 rfl rfl ?_
        refine ex_iload_n dX9_build_12 rfl rfl ?_
        refine ex_callV (a := 55) (rest := []) dX9_build_13 rfl qp_8_89 rfl rfl rfl rfl rfl (Nat.le_of_ble_eq_true rfl) (k_isBuilt hT h (by omega)) (Nat.le_of_ble_eq_true rfl) ?_
        show Ex qm_lay _ mX9_build 16 [some (.ref 55), some (.int (nI k))] [.int (b2i (Nat.testBit (tn_u T) k))] σ _ _
        refine ex_if_eq (q := 22) (q2 := 19) dX9_build_16 rfl rfl (fun hh => absurd hh (b2i_n0.mpr (c2))) (fun _ => ?_)
        refine ex_bipush (x := (-3)) dX9_build_19 rfl rfl ?_
        exact ex_iret dX9_build_21 rfl rfl rfl
    · refine J.u (.int (nI (tn_wd T k))) (tn_bh T k, X, P, Im, S) ⟨tn_bh_ok hT hk, hX, hP, hI, hS, hw⟩ (fun σ hC => ?_) (fun σ hM => ?_)
      · have h : TR σ 9 18 T := hC.1
        obtain ⟨σ', hO, hR, hs⟩ := c_buildHouse_0 hT h hk
        refine ⟨σ', ?_, hC.town (G := (T, X, P, Im, S)) hG hR hs, hs.wid (by omega) (by omega)⟩
        refine Ok.of (ls := [some (.ref 54), some (.int (nI k))]) (Nat.le_of_ble_eq_true rfl) rfl ?_
        refine ex_aload_n dX8_build_0 rfl rfl ?_
        refine ex_getR (b := 22) dX8_build_1 rfl qp_7_10 rfl rfl ?_
        refine ex_iload_n dX8_build_4 rfl rfl ?_
        refine ex_callV (a := 22) (rest := []) dX8_build_5 rfl qp_7_95 rfl rfl rfl rfl rfl (Nat.le_of_ble_eq_true rfl) (c_hasLot_0n hT h (by omega)) (Nat.le_of_ble_eq_true rfl) ?_
        show Ex qm_lay _ mX8_build 8 [some (.ref 54), some (.int (nI k))] [.int 1] σ _ _
        refine ex_if_ne (q := 14) (q2 := 11) dX8_build_8 rfl rfl (fun _ => ?_) (fun hh => absurd (by decide) hh)
        refine ex_aload_n dX8_build_14 rfl rfl ?_
        refine ex_getR (b := 22) dX8_build_15 rfl qp_7_10 rfl rfl ?_
        refine ex_iload_n dX8_build_18 rfl rfl ?_
        refine ex_callV (a := 22) (rest := []) dX8_build_19 rfl qp_7_127 rfl rfl rfl rfl rfl (Nat.le_of_ble_eq_true rfl) (c_isBuilt_0n hT h (by omega)) (Nat.le_of_ble_eq_true rfl) ?_
        show Ex qm_lay _ mX8_build 22 [some (.ref 54), some (.int (nI k))] [.int (b2i (Nat.testBit (tn_u T) k))] σ _ _
        refine ex_if_eq (q := 28) (q2 := 25) dX8_build_22 rfl rfl (fun _ => ?_) (fun hh => absurd (b2i_0.mpr ((by simpa using c2))) hh)
        refine ex_aload_n dX8_build_28 rfl rfl ?_
        refine ex_getR (b := 22) dX8_build_29 rfl qp_7_10 rfl rfl ?_
        refine ex_iload_n dX8_build_32 rfl rfl ?_
        refine ex_callV (a := 22) (rest := []) dX8_build_33 rfl qp_7_133 rfl rfl rfl rfl rfl (Nat.le_of_ble_eq_true rfl) (hO) (Nat.le_of_ble_eq_true rfl) ?_
        show Ex qm_lay _ mX8_build 36 [some (.ref 54), some (.int (nI k))] [.int (nI (tn_wd T k))] σ' _ _
        exact ex_iret dX8_build_36 rfl rfl rfl
      · have h : MR σ T := hM.1
        obtain ⟨σ', hO, hR, hs⟩ := k_builds hT h hk (tn_wd T k)
        refine ⟨σ', ?_, hM.town (G := (T, X, P, Im, S)) hR (hs.wid (by omega) (by omega)), hs.wid (by omega) (by omega)⟩
        refine Ok.of (ls := [some (.ref 55), some (.int (nI k))]) (Nat.le_of_ble_eq_true rfl) rfl ?_
        refine ex_aload_n dX9_build_0 rfl rfl ?_
        refine ex_iload_n dX9_build_1 rfl rfl ?_
        refine ex_callV (a := 55) (rest := []) dX9_build_2 rfl qp_8_85 rfl rfl rfl rfl rfl (Nat.le_of_ble_eq_true rfl) (k_isLot_n hT h (by omega)) (Nat.le_of_ble_eq_true rfl) ?_
        show Ex qm_lay _ mX9_build 5 [some (.ref 55), some (.int (nI k))] [.int 1] σ _ _
        refine ex_if_ne (q := 11) (q2 := 8) dX9_build_5 rfl rfl (fun _ => ?_) (fun hh => absurd (by decide) hh)
        refine ex_aload_n dX9_build_11 rfl rfl ?_
        refine ex_iload_n dX9_build_12 rfl rfl ?_
        refine ex_callV (a := 55) (rest := []) dX9_build_13 rfl qp_8_89 rfl rfl rfl rfl rfl (Nat.le_of_ble_eq_true rfl) (k_isBuilt hT h (by omega)) (Nat.le_of_ble_eq_true rfl) ?_
        show Ex qm_lay _ mX9_build 16 [some (.ref 55), some (.int (nI k))] [.int (b2i (Nat.testBit (tn_u T) k))] σ _ _
        refine ex_if_eq (q := 22) (q2 := 19) dX9_build_16 rfl rfl (fun _ => ?_) (fun hh => absurd (b2i_0.mpr ((by simpa using c2))) hh)
        refine ex_aload_n dX9_build_22 rfl rfl ?_
        refine ex_iload_n dX9_build_23 rfl rfl ?_
        refine ex_aload_n dX9_build_24 rfl rfl ?_
        refine ex_iload_n dX9_build_25 rfl rfl ?_
        refine ex_callV (a := 55) (rest := [.int (nI k), .ref 55]) dX9_build_26 rfl qp_8_202 rfl rfl rfl rfl rfl (Nat.le_of_ble_eq_true rfl) (k_wouldTake hT h (by omega)) (Nat.le_of_ble_eq_true rfl) ?_
        show Ex qm_lay _ mX9_build 29 [some (.ref 55), some (.int (nI k))] [.int (nI (tn_wd T k)), .int (nI k), .ref 55] σ _ _
        refine ex_callV (a := 55) (rest := []) dX9_build_29 rfl qp_8_205 rfl rfl rfl rfl rfl (Nat.le_of_ble_eq_true rfl) (hO) (Nat.le_of_ble_eq_true rfl) ?_
        show Ex qm_lay _ mX9_build 32 [some (.ref 55), some (.int (nI k))] [] σ' _ _
        refine ex_aload_n dX9_build_32 rfl rfl ?_
        refine ex_getR (b := 59) dX9_build_33 rfl qp_8_19 rfl rfl ?_
        refine ex_iload_n dX9_build_36 rfl rfl ?_
        refine ex_iaload (k := k) (x := nI (tn_wd T k)) dX9_build_37 rfl rfl (rfl) (by omega) (by decide) (by rw [MR.cc hR hk, tn_cv_b (tn_put_bit (tn_wd T k) (Or.inl rfl))]; exact congrArg nI (if_pos rfl)) ?_
        exact ex_iret dX9_build_38 rfl rfl rfl
  · refine J.q hG (.int ((-5))) (fun σ hC => ?_) (fun σ hM => ?_)
    · have h : TR σ 9 18 T := hC.1
      refine Ok.of (ls := [some (.ref 54), some (.int l)]) (Nat.le_of_ble_eq_true rfl) rfl ?_
      refine ex_aload_n dX8_build_0 rfl rfl ?_
      refine ex_getR (b := 22) dX8_build_1 rfl qp_7_10 rfl rfl ?_
      refine ex_iload_n dX8_build_4 rfl rfl ?_
      refine ex_callV (a := 22) (rest := []) dX8_build_5 rfl qp_7_95 rfl rfl rfl rfl rfl (Nat.le_of_ble_eq_true rfl) (c_hasLot_0 hT h l) (Nat.le_of_ble_eq_true rfl) ?_
      show Ex qm_lay _ mX8_build 8 [some (.ref 54), some (.int l)] [.int (b2i (tn_has T l))] σ _ _
      refine ex_if_ne (q := 14) (q2 := 11) dX8_build_8 rfl rfl (fun hh => absurd hh (fun zz => zz (b2i_0.mpr (by simpa using c1)))) (fun _ => ?_)
      refine ex_bipush (x := (-5)) dX8_build_11 rfl rfl ?_
      exact ex_iret dX8_build_13 rfl rfl rfl
    · have h : MR σ T := hM.1
      refine Ok.of (ls := [some (.ref 55), some (.int l)]) (Nat.le_of_ble_eq_true rfl) rfl ?_
      refine ex_aload_n dX9_build_0 rfl rfl ?_
      refine ex_iload_n dX9_build_1 rfl rfl ?_
      refine ex_callV (a := 55) (rest := []) dX9_build_2 rfl qp_8_85 rfl rfl rfl rfl rfl (Nat.le_of_ble_eq_true rfl) (k_isLot hT h l) (Nat.le_of_ble_eq_true rfl) ?_
      show Ex qm_lay _ mX9_build 5 [some (.ref 55), some (.int l)] [.int (b2i (tn_has T l))] σ _ _
      refine ex_if_ne (q := 11) (q2 := 8) dX9_build_5 rfl rfl (fun hh => absurd hh (fun zz => zz (b2i_0.mpr (by simpa using c1)))) (fun _ => ?_)
      refine ex_bipush (x := (-5)) dX9_build_8 rfl rfl ?_
      exact ex_iret dX9_build_10 rfl rfl rfl

set_option maxHeartbeats 2000000 in
theorem j_pull {T : tn_T} {X : gx_T} {P : gt_T} {Im : gi_T} {S : gs_T} (hG : gg_ok (T, X, P, Im, S)) (l : Int32) : J mX8_pull mX9_pull [.int l] (T, X, P, Im, S) := by
  have hT : tn_ok T := hG.1
  have hX : gx_ok X := hG.2.1
  have hP : gt_ok P := hG.2.2.1
  have hI : gi_ok T (gx_n X) Im := hG.2.2.2.1
  have hS : gs_ok S := hG.2.2.2.2.1
  have hw : tn_w T < gx_n X := hG.2.2.2.2.2
  have hL := hT.1
  have hw6 := hT.2.1
  have hu := tn_u_lt hT
  have hX6 := hX.2.1
  have hP6 := hP.1
  by_cases c1 : tn_has T l = true
  · obtain ⟨k, hk, rfl⟩ := tn_has_of hT c1
    have hb7 := tn_b_lt hT hk
    have hk5 := (hT.2.2.2 k hk).1
    by_cases c2 : (tn_u T).testBit k = true
    · refine J.u (.int (tn_cv T k)) (tn_clr T k, X, P, Im, S) ⟨tn_clr_ok hT hk, hX, hP, hI, hS, hw⟩ (fun σ hC => ?_) (fun σ hM => ?_)
      · have h : TR σ 9 18 T := hC.1
        obtain ⟨σ', hO, hR, hs⟩ := c_clearLot_0 hT h hk
        refine ⟨σ', ?_, hC.town (G := (T, X, P, Im, S)) hG hR hs, hs.wid (by omega) (by omega)⟩
        refine Ok.of (ls := [some (.ref 54), some (.int (nI k)), none]) (Nat.le_of_ble_eq_true rfl) rfl ?_
        refine ex_aload_n dX8_pull_0 rfl rfl ?_
        refine ex_getR (b := 22) dX8_pull_1 rfl qp_7_10 rfl rfl ?_
        refine ex_iload_n dX8_pull_4 rfl rfl ?_
        refine ex_callV (a := 22) (rest := []) dX8_pull_5 rfl qp_7_95 rfl rfl rfl rfl rfl (Nat.le_of_ble_eq_true rfl) (c_hasLot_0n hT h (by omega)) (Nat.le_of_ble_eq_true rfl) ?_
        show Ex qm_lay _ mX8_pull 8 [some (.ref 54), some (.int (nI k)), none] [.int 1] σ _ _
        refine ex_if_ne (q := 14) (q2 := 11) dX8_pull_8 rfl rfl (fun _ => ?_) (fun hh => absurd (by decide) hh)
        refine ex_aload_n dX8_pull_14 rfl rfl ?_
        refine ex_getR (b := 22) dX8_pull_15 rfl qp_7_10 rfl rfl ?_
        refine ex_iload_n dX8_pull_18 rfl rfl ?_
        refine ex_callV (a := 22) (rest := []) dX8_pull_19 rfl qp_7_127 rfl rfl rfl rfl rfl (Nat.le_of_ble_eq_true rfl) (c_isBuilt_0n hT h (by omega)) (Nat.le_of_ble_eq_true rfl) ?_
        show Ex qm_lay _ mX8_pull 22 [some (.ref 54), some (.int (nI k)), none] [.int (b2i (Nat.testBit (tn_u T) k))] σ _ _
        refine ex_if_ne (q := 28) (q2 := 25) dX8_pull_22 rfl rfl (fun _ => ?_) (fun hh => absurd (b2i_n0.mpr (c2)) hh)
        refine ex_aload_n dX8_pull_28 rfl rfl ?_
        refine ex_getR (b := 22) dX8_pull_29 rfl qp_7_10 rfl rfl ?_
        refine ex_iload_n dX8_pull_32 rfl rfl ?_
        refine ex_callV (a := 22) (rest := []) dX8_pull_33 rfl qp_7_123 rfl rfl rfl rfl rfl (Nat.le_of_ble_eq_true rfl) (c_colourOf_0n hT h (by omega)) (Nat.le_of_ble_eq_true rfl) ?_
        show Ex qm_lay _ mX8_pull 36 [some (.ref 54), some (.int (nI k)), none] [.int (tn_cv T k)] σ _ _
        refine ex_istore_n (ls' := [some (.ref 54), some (.int (nI k)), some (.int (tn_cv T k))]) dX8_pull_36 rfl (Nat.le_of_ble_eq_true rfl) rfl rfl ?_
        refine ex_aload_n dX8_pull_37 rfl rfl ?_
        refine ex_getR (b := 22) dX8_pull_38 rfl qp_7_10 rfl rfl ?_
        refine ex_iload_n dX8_pull_41 rfl rfl ?_
        refine ex_callV (a := 22) (rest := []) dX8_pull_42 rfl qp_7_139 rfl rfl rfl rfl rfl (Nat.le_of_ble_eq_true rfl) (hO) (Nat.le_of_ble_eq_true rfl) ?_
        show Ex qm_lay _ mX8_pull 45 [some (.ref 54), some (.int (nI k)), some (.int (tn_cv T k))] [] σ' _ _
        refine ex_iload_n dX8_pull_45 rfl rfl ?_
        exact ex_iret dX8_pull_46 rfl rfl rfl
      · have h : MR σ T := hM.1
        refine ⟨_, ?_, hM.town (G := (T, X, P, Im, S)) (MR.clr hT h hk) (((sm.rf σ 27 29 42 47).wF _ (by omega)).wF _ (by omega)), ((sm.rf σ 27 46 42 62).wF _ (by omega)).wF _ (by omega)⟩
        refine Ok.of (ls := [some (.ref 55), some (.int (nI k)), none]) (Nat.le_of_ble_eq_true rfl) rfl ?_
        refine ex_aload_n dX9_pull_0 rfl rfl ?_
        refine ex_iload_n dX9_pull_1 rfl rfl ?_
        refine ex_callV (a := 55) (rest := []) dX9_pull_2 rfl qp_8_85 rfl rfl rfl rfl rfl (Nat.le_of_ble_eq_true rfl) (k_isLot_n hT h (by omega)) (Nat.le_of_ble_eq_true rfl) ?_
        show Ex qm_lay _ mX9_pull 5 [some (.ref 55), some (.int (nI k)), none] [.int 1] σ _ _
        refine ex_if_ne (q := 11) (q2 := 8) dX9_pull_5 rfl rfl (fun _ => ?_) (fun hh => absurd (by decide) hh)
        refine ex_aload_n dX9_pull_11 rfl rfl ?_
        refine ex_iload_n dX9_pull_12 rfl rfl ?_
        refine ex_callV (a := 55) (rest := []) dX9_pull_13 rfl qp_8_89 rfl rfl rfl rfl rfl (Nat.le_of_ble_eq_true rfl) (k_isBuilt hT h (by omega)) (Nat.le_of_ble_eq_true rfl) ?_
        show Ex qm_lay _ mX9_pull 16 [some (.ref 55), some (.int (nI k)), none] [.int (b2i (Nat.testBit (tn_u T) k))] σ _ _
        refine ex_if_ne (q := 22) (q2 := 19) dX9_pull_16 rfl rfl (fun _ => ?_) (fun hh => absurd (b2i_n0.mpr (c2)) hh)
        refine ex_aload_n dX9_pull_22 rfl rfl ?_
        refine ex_getR (b := 59) dX9_pull_23 rfl qp_8_19 rfl rfl ?_
        refine ex_iload_n dX9_pull_26 rfl rfl ?_
        refine ex_iaload (k := k) (x := tn_cv T k) dX9_pull_27 rfl rfl (rfl) (by omega) (by decide) (MR.cc h (by omega)) ?_
        refine ex_istore_n (ls' := [some (.ref 55), some (.int (nI k)), some (.int (tn_cv T k))]) dX9_pull_28 rfl (Nat.le_of_ble_eq_true rfl) rfl rfl ?_
        refine ex_aload_n dX9_pull_29 rfl rfl ?_
        refine ex_getR (b := 59) dX9_pull_30 rfl qp_8_19 rfl rfl ?_
        refine ex_iload_n dX9_pull_33 rfl rfl ?_
        refine ex_iconst (x := (-1)) dX9_pull_34 rfl rfl ?_
        refine ex_iastore (k := k) (σ' := qm_wF σ 45 k ((-1))) dX9_pull_35 rfl rfl (rfl) (by omega) (by decide) rfl ?_
        refine ex_aload_n dX9_pull_36 rfl rfl ?_
        refine ex_getR (b := 60) dX9_pull_37 rfl qp_8_22 rfl rfl ?_
        refine ex_iload_n dX9_pull_40 rfl rfl ?_
        refine ex_iconst (x := (-1)) dX9_pull_41 rfl rfl ?_
        refine ex_iastore (k := k) (σ' := qm_wF (qm_wF σ 45 k ((-1))) 46 k ((-1))) dX9_pull_42 rfl rfl (rfl) (by omega) (by decide) rfl ?_
        refine ex_iload_n dX9_pull_43 rfl rfl ?_
        exact ex_iret dX9_pull_44 rfl rfl rfl
    · refine J.q hG (.int ((-3))) (fun σ hC => ?_) (fun σ hM => ?_)
      · have h : TR σ 9 18 T := hC.1
        refine Ok.of (ls := [some (.ref 54), some (.int (nI k)), none]) (Nat.le_of_ble_eq_true rfl) rfl ?_
        refine ex_aload_n dX8_pull_0 rfl rfl ?_
        refine ex_getR (b := 22) dX8_pull_1 rfl qp_7_10 rfl rfl ?_
        refine ex_iload_n dX8_pull_4 rfl rfl ?_
        refine ex_callV (a := 22) (rest := []) dX8_pull_5 rfl qp_7_95 rfl rfl rfl rfl rfl (Nat.le_of_ble_eq_true rfl) (c_hasLot_0n hT h (by omega)) (Nat.le_of_ble_eq_true rfl) ?_
        show Ex qm_lay _ mX8_pull 8 [some (.ref 54), some (.int (nI k)), none] [.int 1] σ _ _
        refine ex_if_ne (q := 14) (q2 := 11) dX8_pull_8 rfl rfl (fun _ => ?_) (fun hh => absurd (by decide) hh)
        refine ex_aload_n dX8_pull_14 rfl rfl ?_
        refine ex_getR (b := 22) dX8_pull_15 rfl qp_7_10 rfl rfl ?_
        refine ex_iload_n dX8_pull_18 rfl rfl ?_
        refine ex_callV (a := 22) (rest := []) dX8_pull_19 rfl qp_7_127 rfl rfl rfl rfl rfl (Nat.le_of_ble_eq_true rfl) (c_isBuilt_0n hT h (by omega)) (Nat.le_of_ble_eq_true rfl) ?_
        show Ex qm_lay _ mX8_pull 22 [some (.ref 54), some (.int (nI k)), none] [.int (b2i (Nat.testBit (tn_u T) k))] σ _ _
        refine ex_if_ne (q := 28) (q2 := 25) dX8_pull_22 rfl rfl (fun hh => absurd hh (fun zz => zz (b2i_0.mpr ((by simpa using c2))))) (fun _ => ?_)
        refine ex_bipush (x := (-3)) dX8_pull_25 rfl rfl ?_
        exact ex_iret dX8_pull_27 rfl rfl rfl
      · have h : MR σ T := hM.1
        refine Ok.of (ls := [some (.ref 55), some (.int (nI k)), none]) (Nat.le_of_ble_eq_true rfl) rfl ?_
        refine ex_aload_n dX9_pull_0 rfl rfl ?_
        refine ex_iload_n dX9_pull_1 rfl rfl ?_
        refine ex_callV (a := 55) (rest := []) dX9_pull_2 rfl qp_8_85 rfl rfl rfl rfl rfl (Nat.le_of_ble_eq_true rfl) (k_isLot_n hT h (by omega)) (Nat.le_of_ble_eq_true rfl) ?_
        show Ex qm_lay _ mX9_pull 5 [some (.ref 55), some (.int (nI k)), none] [.int 1] σ _ _
        refine ex_if_ne (q := 11) (q2 := 8) dX9_pull_5 rfl rfl (fun _ => ?_) (fun hh => absurd (by decide) hh)
        refine ex_aload_n dX9_pull_11 rfl rfl ?_
        refine ex_iload_n dX9_pull_12 rfl rfl ?_
        refine ex_callV (a := 55) (rest := []) dX9_pull_13 rfl qp_8_89 rfl rfl rfl rfl rfl (Nat.le_of_ble_eq_true rfl) (k_isBuilt hT h (by omega)) (Nat.le_of_ble_eq_true rfl) ?_
        show Ex qm_lay _ mX9_pull 16 [some (.ref 55), some (.int (nI k)), none] [.int (b2i (Nat.testBit (tn_u T) k))] σ _ _
        refine ex_if_ne (q := 22) (q2 := 19) dX9_pull_16 rfl rfl (fun hh => absurd hh (fun zz => zz (b2i_0.mpr ((by simpa using c2))))) (fun _ => ?_)
        refine ex_bipush (x := (-3)) dX9_pull_19 rfl rfl ?_
        exact ex_iret dX9_pull_21 rfl rfl rfl
  · refine J.q hG (.int ((-5))) (fun σ hC => ?_) (fun σ hM => ?_)
    · have h : TR σ 9 18 T := hC.1
      refine Ok.of (ls := [some (.ref 54), some (.int l), none]) (Nat.le_of_ble_eq_true rfl) rfl ?_
      refine ex_aload_n dX8_pull_0 rfl rfl ?_
      refine ex_getR (b := 22) dX8_pull_1 rfl qp_7_10 rfl rfl ?_
      refine ex_iload_n dX8_pull_4 rfl rfl ?_
      refine ex_callV (a := 22) (rest := []) dX8_pull_5 rfl qp_7_95 rfl rfl rfl rfl rfl (Nat.le_of_ble_eq_true rfl) (c_hasLot_0 hT h l) (Nat.le_of_ble_eq_true rfl) ?_
      show Ex qm_lay _ mX8_pull 8 [some (.ref 54), some (.int l), none] [.int (b2i (tn_has T l))] σ _ _
      refine ex_if_ne (q := 14) (q2 := 11) dX8_pull_8 rfl rfl (fun hh => absurd hh (fun zz => zz (b2i_0.mpr (by simpa using c1)))) (fun _ => ?_)
      refine ex_bipush (x := (-5)) dX8_pull_11 rfl rfl ?_
      exact ex_iret dX8_pull_13 rfl rfl rfl
    · have h : MR σ T := hM.1
      refine Ok.of (ls := [some (.ref 55), some (.int l), none]) (Nat.le_of_ble_eq_true rfl) rfl ?_
      refine ex_aload_n dX9_pull_0 rfl rfl ?_
      refine ex_iload_n dX9_pull_1 rfl rfl ?_
      refine ex_callV (a := 55) (rest := []) dX9_pull_2 rfl qp_8_85 rfl rfl rfl rfl rfl (Nat.le_of_ble_eq_true rfl) (k_isLot hT h l) (Nat.le_of_ble_eq_true rfl) ?_
      show Ex qm_lay _ mX9_pull 5 [some (.ref 55), some (.int l), none] [.int (b2i (tn_has T l))] σ _ _
      refine ex_if_ne (q := 11) (q2 := 8) dX9_pull_5 rfl rfl (fun hh => absurd hh (fun zz => zz (b2i_0.mpr (by simpa using c1)))) (fun _ => ?_)
      refine ex_bipush (x := (-5)) dX9_pull_8 rfl rfl ?_
      exact ex_iret dX9_pull_10 rfl rfl rfl


theorem tn_pt_id {T : tn_T} (hT : tn_ok T) {a b : Nat} (ha : a < tn_L T) (hb : b < tn_L T) (hab : a ≠ b) (h : (tn_b T a).testBit b = false) : tn_pt T a b = T := by
  have hL := hT.1
  have key0 : ∀ z, z < 7 → ∀ u, u < 128 → u.testBit z = false → tn_cl u z = u := by decide +kernel
  have key : ∀ u z, z < 7 → u < 128 → u.testBit z = false → tn_cl u z = u := fun u z h1 h2 h3 => key0 z h1 u h2 h3
  have e1 := key _ b (by omega) (tn_b_lt hT ha) h
  have e2 := key _ a (by omega) (tn_b_lt hT hb) (by rw [← (hT.2.2.2 a ha).2.2.2.2.2 b hb]; exact h)
  obtain ⟨L, w, n, u, k, m, bb, c, s⟩ := T
  have e1' : tn_cl (bb a) b = bb a := e1
  have e2' : tn_cl (bb b) a = bb b := e2
  show (L, w, n, u, k, m, (fun q => if q = a then tn_cl (bb a) b else if q = b then tn_cl (bb b) a else bb q), c, s) = (L, w, n, u, k, m, bb, c, s)
  congr 7
  funext q
  by_cases g1 : q = a
  · rw [if_pos g1, e1', g1]
  · by_cases g2 : q = b
    · rw [if_neg g1, if_pos g2, e2', g2]
    · rw [if_neg g1, if_neg g2]
set_option maxHeartbeats 2000000 in
theorem j_close {T : tn_T} {X : gx_T} {P : gt_T} {Im : gi_T} {S : gs_T} (hG : gg_ok (T, X, P, Im, S)) (x y : Int32) : J mX8_close mX9_close [.int x, .int y] (T, X, P, Im, S) := by
  have hT : tn_ok T := hG.1
  have hX : gx_ok X := hG.2.1
  have hP : gt_ok P := hG.2.2.1
  have hI : gi_ok T (gx_n X) Im := hG.2.2.2.1
  have hS : gs_ok S := hG.2.2.2.2.1
  have hw : tn_w T < gx_n X := hG.2.2.2.2.2
  have hL := hT.1
  have hw6 := hT.2.1
  have hu := tn_u_lt hT
  have hX6 := hX.2.1
  have hP6 := hP.1
  by_cases c1 : tn_two T x y = true
  · obtain ⟨a, b, ha, hb, hab, rfl, rfl⟩ := tn_two_of hT c1
    have hba := tn_b_lt hT ha
    have hbb := tn_b_lt hT hb
    by_cases c2 : (tn_b T a).testBit b = true
    · refine J.u (.int 1) (tn_pt T a b, X, P, Im, S) ⟨tn_pt_ok hT ha hb hab, hX, hP, hI, hS, hw⟩ (fun σ hC => ?_) (fun σ hM => ?_)
      · have h : TR σ 9 18 T := hC.1
        obtain ⟨σ', hO, hR, hs⟩ := c_part_0 hT h ha hb hab
        refine ⟨σ', ?_, hC.town (G := (T, X, P, Im, S)) hG hR hs, hs.wid (by omega) (by omega)⟩
        refine Ok.of (ls := [some (.ref 54), some (.int (nI a)), some (.int (nI b))]) (Nat.le_of_ble_eq_true rfl) rfl ?_
        refine ex_aload_n dX8_close_0 rfl rfl ?_
        refine ex_getR (b := 22) dX8_close_1 rfl qp_7_10 rfl rfl ?_
        refine ex_iload_n dX8_close_4 rfl rfl ?_
        refine ex_iload_n dX8_close_5 rfl rfl ?_
        refine ex_callV (a := 22) (rest := []) dX8_close_6 rfl qp_7_159 rfl rfl rfl rfl rfl (Nat.le_of_ble_eq_true rfl) (c_hasTwoLots_0 hT h (nI a) (nI b)) (Nat.le_of_ble_eq_true rfl) ?_
        show Ex qm_lay _ mX8_close 9 [some (.ref 54), some (.int (nI a)), some (.int (nI b))] [.int (b2i (tn_two T (nI a) (nI b)))] σ _ _
        refine ex_if_ne (q := 15) (q2 := 12) dX8_close_9 rfl rfl (fun _ => ?_) (fun hh => absurd (b2i_n0.mpr (c1)) hh)
        refine ex_aload_n dX8_close_15 rfl rfl ?_
        refine ex_getR (b := 22) dX8_close_16 rfl qp_7_10 rfl rfl ?_
        refine ex_iload_n dX8_close_19 rfl rfl ?_
        refine ex_iload_n dX8_close_20 rfl rfl ?_
        refine ex_callV (a := 22) (rest := []) dX8_close_21 rfl qp_7_163 rfl rfl rfl rfl rfl (Nat.le_of_ble_eq_true rfl) (c_areBeside_0 hT h (by omega) (by omega)) (Nat.le_of_ble_eq_true rfl) ?_
        show Ex qm_lay _ mX8_close 24 [some (.ref 54), some (.int (nI a)), some (.int (nI b))] [.int (b2i (Nat.testBit (tn_b T a) b))] σ _ _
        refine ex_if_ne (q := 29) (q2 := 27) dX8_close_24 rfl rfl (fun _ => ?_) (fun hh => absurd (b2i_n0.mpr (c2)) hh)
        refine ex_aload_n dX8_close_29 rfl rfl ?_
        refine ex_getR (b := 22) dX8_close_30 rfl qp_7_10 rfl rfl ?_
        refine ex_iload_n dX8_close_33 rfl rfl ?_
        refine ex_iload_n dX8_close_34 rfl rfl ?_
        refine ex_callV (a := 22) (rest := []) dX8_close_35 rfl qp_7_166 rfl rfl rfl rfl rfl (Nat.le_of_ble_eq_true rfl) (hO) (Nat.le_of_ble_eq_true rfl) ?_
        show Ex qm_lay _ mX8_close 38 [some (.ref 54), some (.int (nI a)), some (.int (nI b))] [] σ' _ _
        refine ex_iconst (x := 1) dX8_close_38 rfl rfl ?_
        exact ex_iret dX8_close_39 rfl rfl rfl
      · have h : MR σ T := hM.1
        refine ⟨_, ?_, hM.town (G := (T, X, P, Im, S)) (MR.pt h hab) (((sm.rf σ 27 29 42 47).wF _ (by omega)).wF _ (by omega)), ((sm.rf σ 27 46 42 62).wF _ (by omega)).wF _ (by omega)⟩
        refine Ok.of (ls := [some (.ref 55), some (.int (nI a)), some (.int (nI b)), none]) (Nat.le_of_ble_eq_true rfl) rfl ?_
        refine ex_aload_n dX9_close_0 rfl rfl ?_
        refine ex_iload_n dX9_close_1 rfl rfl ?_
        refine ex_iload_n dX9_close_2 rfl rfl ?_
        refine ex_callV (a := 55) (rest := []) dX9_close_3 rfl qp_8_220 rfl rfl rfl rfl rfl (Nat.le_of_ble_eq_true rfl) (k_areTwo hT h (nI a) (nI b)) (Nat.le_of_ble_eq_true rfl) ?_
        show Ex qm_lay _ mX9_close 6 [some (.ref 55), some (.int (nI a)), some (.int (nI b)), none] [.int (b2i (tn_two T (nI a) (nI b)))] σ _ _
        refine ex_if_ne (q := 12) (q2 := 9) dX9_close_6 rfl rfl (fun _ => ?_) (fun hh => absurd (b2i_n0.mpr (c1)) hh)
        refine ex_aload_n dX9_close_12 rfl rfl ?_
        refine ex_iload_n dX9_close_13 rfl rfl ?_
        refine ex_iload_n dX9_close_14 rfl rfl ?_
        refine ex_callV (a := 55) (rest := []) dX9_close_15 rfl qp_8_186 rfl rfl rfl rfl rfl (Nat.le_of_ble_eq_true rfl) (k_areBeside hT h (by omega) (by omega)) (Nat.le_of_ble_eq_true rfl) ?_
        show Ex qm_lay _ mX9_close 18 [some (.ref 55), some (.int (nI a)), some (.int (nI b)), none] [.int (b2i (Nat.testBit (tn_b T a) b))] σ _ _
        refine ex_if_eq (q := 25) (q2 := 21) dX9_close_18 rfl rfl (fun hh => absurd hh (b2i_n0.mpr (c2))) (fun _ => ?_)
        refine ex_iconst (x := 1) dX9_close_21 rfl rfl ?_
        refine ex_goto (q := 26) dX9_close_22 rfl ?_
        refine ex_istore_n (ls' := [some (.ref 55), some (.int (nI a)), some (.int (nI b)), some (.int 1)]) dX9_close_26 rfl (Nat.le_of_ble_eq_true rfl) rfl rfl ?_
        refine ex_aload_n dX9_close_27 rfl rfl ?_
        refine ex_getR (b := 58) dX9_close_28 rfl qp_8_16 rfl rfl ?_
        refine ex_iload_n dX9_close_31 rfl rfl ?_
        refine ex_dup2 dX9_close_32 rfl rfl rfl ?_
        refine ex_iaload (k := a) (x := nI (tn_b T a)) dX9_close_33 rfl rfl (rfl) (by omega) (by decide) (MR.bb h (by omega)) ?_
        refine ex_iconst (x := 1) dX9_close_34 rfl rfl ?_
        refine ex_iload_n dX9_close_35 rfl rfl ?_
        refine ex_ishl (z := nI (2 ^ b)) dX9_close_36 rfl (nI_1shl (by omega)) ?_
        refine ex_iconst (x := (-1)) dX9_close_37 rfl rfl ?_
        refine ex_ixor (z := (nI (2 ^ b)) ^^^ ((-1))) dX9_close_38 rfl (rfl) ?_
        refine ex_iand (z := nI (tn_cl (tn_b T a) b)) dX9_close_39 rfl (tn_cls (by omega) (by omega)) ?_
        refine ex_iastore (k := a) (σ' := qm_wF σ 44 a (nI (tn_cl (tn_b T a) b))) dX9_close_40 rfl rfl (rfl) (by omega) (by decide) rfl ?_
        refine ex_aload_n dX9_close_41 rfl rfl ?_
        refine ex_getR (b := 58) dX9_close_42 rfl qp_8_16 rfl rfl ?_
        refine ex_iload_n dX9_close_45 rfl rfl ?_
        refine ex_dup2 dX9_close_46 rfl rfl rfl ?_
        refine ex_iaload (k := b) (x := nI (tn_b T b)) dX9_close_47 rfl rfl (rfl) (by omega) (by decide) (by rw [rF_wF, if_pos rfl, if_neg (Ne.symm hab)]; exact MR.bb h hb) ?_
        refine ex_iconst (x := 1) dX9_close_48 rfl rfl ?_
        refine ex_iload_n dX9_close_49 rfl rfl ?_
        refine ex_ishl (z := nI (2 ^ a)) dX9_close_50 rfl (nI_1shl (by omega)) ?_
        refine ex_iconst (x := (-1)) dX9_close_51 rfl rfl ?_
        refine ex_ixor (z := (nI (2 ^ a)) ^^^ ((-1))) dX9_close_52 rfl (rfl) ?_
        refine ex_iand (z := nI (tn_cl (tn_b T b) a)) dX9_close_53 rfl (tn_cls (by omega) (by omega)) ?_
        refine ex_iastore (k := b) (σ' := qm_wF (qm_wF σ 44 a (nI (tn_cl (tn_b T a) b))) 44 b (nI (tn_cl (tn_b T b) a))) dX9_close_54 rfl rfl (rfl) (by omega) (by decide) rfl ?_
        refine ex_iload_n dX9_close_55 rfl rfl ?_
        exact ex_iret dX9_close_56 rfl rfl rfl
    · refine J.u (.int 0) (T, X, P, Im, S) hG (fun σ hC => ?_) (fun σ hM => ?_)
      · have h : TR σ 9 18 T := hC.1
        refine ⟨σ, ?_, hC, sm.rf _ _ _ _ _⟩
        refine Ok.of (ls := [some (.ref 54), some (.int (nI a)), some (.int (nI b))]) (Nat.le_of_ble_eq_true rfl) rfl ?_
        refine ex_aload_n dX8_close_0 rfl rfl ?_
        refine ex_getR (b := 22) dX8_close_1 rfl qp_7_10 rfl rfl ?_
        refine ex_iload_n dX8_close_4 rfl rfl ?_
        refine ex_iload_n dX8_close_5 rfl rfl ?_
        refine ex_callV (a := 22) (rest := []) dX8_close_6 rfl qp_7_159 rfl rfl rfl rfl rfl (Nat.le_of_ble_eq_true rfl) (c_hasTwoLots_0 hT h (nI a) (nI b)) (Nat.le_of_ble_eq_true rfl) ?_
        show Ex qm_lay _ mX8_close 9 [some (.ref 54), some (.int (nI a)), some (.int (nI b))] [.int (b2i (tn_two T (nI a) (nI b)))] σ _ _
        refine ex_if_ne (q := 15) (q2 := 12) dX8_close_9 rfl rfl (fun _ => ?_) (fun hh => absurd (b2i_n0.mpr (c1)) hh)
        refine ex_aload_n dX8_close_15 rfl rfl ?_
        refine ex_getR (b := 22) dX8_close_16 rfl qp_7_10 rfl rfl ?_
        refine ex_iload_n dX8_close_19 rfl rfl ?_
        refine ex_iload_n dX8_close_20 rfl rfl ?_
        refine ex_callV (a := 22) (rest := []) dX8_close_21 rfl qp_7_163 rfl rfl rfl rfl rfl (Nat.le_of_ble_eq_true rfl) (c_areBeside_0 hT h (by omega) (by omega)) (Nat.le_of_ble_eq_true rfl) ?_
        show Ex qm_lay _ mX8_close 24 [some (.ref 54), some (.int (nI a)), some (.int (nI b))] [.int (b2i (Nat.testBit (tn_b T a) b))] σ _ _
        refine ex_if_ne (q := 29) (q2 := 27) dX8_close_24 rfl rfl (fun hh => absurd hh (fun zz => zz (b2i_0.mpr (by simpa using c2)))) (fun _ => ?_)
        refine ex_iconst (x := 0) dX8_close_27 rfl rfl ?_
        exact ex_iret dX8_close_28 rfl rfl rfl
      · have h : MR σ T := hM.1
        refine ⟨_, ?_, (by rw [← tn_pt_id hT ha hb hab (by simpa using c2)]; exact hM.town (G := (T, X, P, Im, S)) (MR.pt h hab) (((sm.rf σ 27 29 42 47).wF _ (by omega)).wF _ (by omega))), ((sm.rf σ 27 46 42 62).wF _ (by omega)).wF _ (by omega)⟩
        refine Ok.of (ls := [some (.ref 55), some (.int (nI a)), some (.int (nI b)), none]) (Nat.le_of_ble_eq_true rfl) rfl ?_
        refine ex_aload_n dX9_close_0 rfl rfl ?_
        refine ex_iload_n dX9_close_1 rfl rfl ?_
        refine ex_iload_n dX9_close_2 rfl rfl ?_
        refine ex_callV (a := 55) (rest := []) dX9_close_3 rfl qp_8_220 rfl rfl rfl rfl rfl (Nat.le_of_ble_eq_true rfl) (k_areTwo hT h (nI a) (nI b)) (Nat.le_of_ble_eq_true rfl) ?_
        show Ex qm_lay _ mX9_close 6 [some (.ref 55), some (.int (nI a)), some (.int (nI b)), none] [.int (b2i (tn_two T (nI a) (nI b)))] σ _ _
        refine ex_if_ne (q := 12) (q2 := 9) dX9_close_6 rfl rfl (fun _ => ?_) (fun hh => absurd (b2i_n0.mpr (c1)) hh)
        refine ex_aload_n dX9_close_12 rfl rfl ?_
        refine ex_iload_n dX9_close_13 rfl rfl ?_
        refine ex_iload_n dX9_close_14 rfl rfl ?_
        refine ex_callV (a := 55) (rest := []) dX9_close_15 rfl qp_8_186 rfl rfl rfl rfl rfl (Nat.le_of_ble_eq_true rfl) (k_areBeside hT h (by omega) (by omega)) (Nat.le_of_ble_eq_true rfl) ?_
        show Ex qm_lay _ mX9_close 18 [some (.ref 55), some (.int (nI a)), some (.int (nI b)), none] [.int (b2i (Nat.testBit (tn_b T a) b))] σ _ _
        refine ex_if_eq (q := 25) (q2 := 21) dX9_close_18 rfl rfl (fun _ => ?_) (fun hh => absurd (b2i_0.mpr (by simpa using c2)) hh)
        refine ex_iconst (x := 0) dX9_close_25 rfl rfl ?_
        refine ex_istore_n (ls' := [some (.ref 55), some (.int (nI a)), some (.int (nI b)), some (.int 0)]) dX9_close_26 rfl (Nat.le_of_ble_eq_true rfl) rfl rfl ?_
        refine ex_aload_n dX9_close_27 rfl rfl ?_
        refine ex_getR (b := 58) dX9_close_28 rfl qp_8_16 rfl rfl ?_
        refine ex_iload_n dX9_close_31 rfl rfl ?_
        refine ex_dup2 dX9_close_32 rfl rfl rfl ?_
        refine ex_iaload (k := a) (x := nI (tn_b T a)) dX9_close_33 rfl rfl (rfl) (by omega) (by decide) (MR.bb h (by omega)) ?_
        refine ex_iconst (x := 1) dX9_close_34 rfl rfl ?_
        refine ex_iload_n dX9_close_35 rfl rfl ?_
        refine ex_ishl (z := nI (2 ^ b)) dX9_close_36 rfl (nI_1shl (by omega)) ?_
        refine ex_iconst (x := (-1)) dX9_close_37 rfl rfl ?_
        refine ex_ixor (z := (nI (2 ^ b)) ^^^ ((-1))) dX9_close_38 rfl (rfl) ?_
        refine ex_iand (z := nI (tn_cl (tn_b T a) b)) dX9_close_39 rfl (tn_cls (by omega) (by omega)) ?_
        refine ex_iastore (k := a) (σ' := qm_wF σ 44 a (nI (tn_cl (tn_b T a) b))) dX9_close_40 rfl rfl (rfl) (by omega) (by decide) rfl ?_
        refine ex_aload_n dX9_close_41 rfl rfl ?_
        refine ex_getR (b := 58) dX9_close_42 rfl qp_8_16 rfl rfl ?_
        refine ex_iload_n dX9_close_45 rfl rfl ?_
        refine ex_dup2 dX9_close_46 rfl rfl rfl ?_
        refine ex_iaload (k := b) (x := nI (tn_b T b)) dX9_close_47 rfl rfl (rfl) (by omega) (by decide) (by rw [rF_wF, if_pos rfl, if_neg (Ne.symm hab)]; exact MR.bb h hb) ?_
        refine ex_iconst (x := 1) dX9_close_48 rfl rfl ?_
        refine ex_iload_n dX9_close_49 rfl rfl ?_
        refine ex_ishl (z := nI (2 ^ a)) dX9_close_50 rfl (nI_1shl (by omega)) ?_
        refine ex_iconst (x := (-1)) dX9_close_51 rfl rfl ?_
        refine ex_ixor (z := (nI (2 ^ a)) ^^^ ((-1))) dX9_close_52 rfl (rfl) ?_
        refine ex_iand (z := nI (tn_cl (tn_b T b) a)) dX9_close_53 rfl (tn_cls (by omega) (by omega)) ?_
        refine ex_iastore (k := b) (σ' := qm_wF (qm_wF σ 44 a (nI (tn_cl (tn_b T a) b))) 44 b (nI (tn_cl (tn_b T b) a))) dX9_close_54 rfl rfl (rfl) (by omega) (by decide) rfl ?_
        refine ex_iload_n dX9_close_55 rfl rfl ?_
        exact ex_iret dX9_close_56 rfl rfl rfl
  · refine J.q hG (.int ((-5))) (fun σ hC => ?_) (fun σ hM => ?_)
    · have h : TR σ 9 18 T := hC.1
      refine Ok.of (ls := [some (.ref 54), some (.int x), some (.int y)]) (Nat.le_of_ble_eq_true rfl) rfl ?_
      refine ex_aload_n dX8_close_0 rfl rfl ?_
      refine ex_getR (b := 22) dX8_close_1 rfl qp_7_10 rfl rfl ?_
      refine ex_iload_n dX8_close_4 rfl rfl ?_
      refine ex_iload_n dX8_close_5 rfl rfl ?_
      refine ex_callV (a := 22) (rest := []) dX8_close_6 rfl qp_7_159 rfl rfl rfl rfl rfl (Nat.le_of_ble_eq_true rfl) (c_hasTwoLots_0 hT h x y) (Nat.le_of_ble_eq_true rfl) ?_
      show Ex qm_lay _ mX8_close 9 [some (.ref 54), some (.int x), some (.int y)] [.int (b2i (tn_two T x y))] σ _ _
      refine ex_if_ne (q := 15) (q2 := 12) dX8_close_9 rfl rfl (fun hh => absurd hh (fun zz => zz (b2i_0.mpr (by simpa using c1)))) (fun _ => ?_)
      refine ex_bipush (x := (-5)) dX8_close_12 rfl rfl ?_
      exact ex_iret dX8_close_14 rfl rfl rfl
    · have h : MR σ T := hM.1
      refine Ok.of (ls := [some (.ref 55), some (.int x), some (.int y), none]) (Nat.le_of_ble_eq_true rfl) rfl ?_
      refine ex_aload_n dX9_close_0 rfl rfl ?_
      refine ex_iload_n dX9_close_1 rfl rfl ?_
      refine ex_iload_n dX9_close_2 rfl rfl ?_
      refine ex_callV (a := 55) (rest := []) dX9_close_3 rfl qp_8_220 rfl rfl rfl rfl rfl (Nat.le_of_ble_eq_true rfl) (k_areTwo hT h x y) (Nat.le_of_ble_eq_true rfl) ?_
      show Ex qm_lay _ mX9_close 6 [some (.ref 55), some (.int x), some (.int y), none] [.int (b2i (tn_two T x y))] σ _ _
      refine ex_if_ne (q := 12) (q2 := 9) dX9_close_6 rfl rfl (fun hh => absurd hh (fun zz => zz (b2i_0.mpr (by simpa using c1)))) (fun _ => ?_)
      refine ex_bipush (x := (-5)) dX9_close_9 rfl rfl ?_
      exact ex_iret dX9_close_11 rfl rfl rfl

