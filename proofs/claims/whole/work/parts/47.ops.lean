/-- one more loop of the whole: what the lots by a sheet come to, both sides -/
def JL (mC mM : qm_MI) (pC pM : Nat) (lC lM : qm_LS) (G : gg_T) : Prop := ∃ r G', gg_ok G' ∧
  (∀ σ, CG σ G → ∃ σ', Ex qm_lay 100 mC pC lC [] σ (some r) σ' ∧ CG σ' G' ∧ sm σ σ' 0 27 0 42) ∧
  (∀ σ, MG σ G → ∃ σ', Ex qm_lay 100 mM pM lM [] σ (some r) σ' ∧ MG σ' G' ∧ sm σ σ' 27 46 42 62)

set_option maxHeartbeats 2000000 in
theorem c_refusalOfMap {σ : qm_St} {T : tn_T} {X : gx_T} {P : gt_T} {Im : gi_T} {S : gs_T} (hG : gg_ok (T, X, P, Im, S)) (hC : CG σ (T, X, P, Im, S)) (x : Int32) : Ok qm_lay 20 mX8_refusalOfMap [.ref 54, .int x] σ (some (.int (gs_rm T S x))) σ := by
  have hT : tn_ok T := hG.1
  have hX : gx_ok X := hG.2.1
  have hP : gt_ok P := hG.2.2.1
  have hI : gi_ok T (gx_n X) Im := hG.2.2.2.1
  have hS : gs_ok S := hG.2.2.2.2.1
  have hw : tn_w T < gx_n X := hG.2.2.2.2.2
  have hL := hT.1
  have hw6 := hT.2.1
  have hu := tn_u_lt hT
  have hX6 := hX.2.1
  have hP6 := hP.1
  by_cases c1 : tn_in x 0 3 = true
  · obtain ⟨s, hs, rfl⟩ := tn_in_of (n := 3) (by decide) c1
    have h40 := (hS s (by omega)).2
    rw [gs_rm_t (by omega)]
    by_cases c2 : S.1 s = -1
    · have h : TR σ 9 18 T := hC.1
      refine Ok.of (ls := [some (.ref 54), some (.int (nI s))]) (Nat.le_of_ble_eq_true rfl) rfl ?_
      refine ex_iload_n dX8_refusalOfMap_0 rfl rfl ?_
      refine ex_callS (rest := []) dX8_refusalOfMap_1 rfl qp_7_201 rfl rfl rfl (Nat.le_of_ble_eq_true rfl) (c_isSheet _ _) (Nat.le_of_ble_eq_true rfl) ?_
      show Ex qm_lay _ mX8_refusalOfMap 4 [some (.ref 54), some (.int (nI s))] [.int (b2i (tn_in (nI s) 0 3))] σ _ _
      refine ex_if_ne (q := 10) (q2 := 7) dX8_refusalOfMap_4 rfl rfl (fun _ => ?_) (fun hh => absurd (b2i_n0.mpr (c1)) hh)
      refine ex_aload_n dX8_refusalOfMap_10 rfl rfl ?_
      refine ex_getR (b := 40) dX8_refusalOfMap_11 rfl qp_7_36 rfl rfl ?_
      refine ex_iload_n dX8_refusalOfMap_14 rfl rfl ?_
      refine ex_callV (a := 40) (rest := []) dX8_refusalOfMap_15 rfl qp_7_204 rfl rfl rfl rfl rfl (Nat.le_of_ble_eq_true rfl) (c_isMissing hS hC.2.2.2.2 (by omega)) (Nat.le_of_ble_eq_true rfl) ?_
      show Ex qm_lay _ mX8_refusalOfMap 18 [some (.ref 54), some (.int (nI s))] [.int (b2i (decide (S.1 s = -1)))] σ _ _
      refine ex_if_eq (q := 24) (q2 := 21) dX8_refusalOfMap_18 rfl rfl (fun hh => absurd hh (b2i_n0.mpr (decide_eq_true c2))) (fun _ => ?_)
      refine ex_bipush (x := (-11)) dX8_refusalOfMap_21 rfl rfl ?_
      exact ex_iret dX8_refusalOfMap_23 rfl (by rw [if_pos c2]) rfl
    · have h : TR σ 9 18 T := hC.1
      refine Ok.of (ls := [some (.ref 54), some (.int (nI s))]) (Nat.le_of_ble_eq_true rfl) rfl ?_
      refine ex_iload_n dX8_refusalOfMap_0 rfl rfl ?_
      refine ex_callS (rest := []) dX8_refusalOfMap_1 rfl qp_7_201 rfl rfl rfl (Nat.le_of_ble_eq_true rfl) (c_isSheet _ _) (Nat.le_of_ble_eq_true rfl) ?_
      show Ex qm_lay _ mX8_refusalOfMap 4 [some (.ref 54), some (.int (nI s))] [.int (b2i (tn_in (nI s) 0 3))] σ _ _
      refine ex_if_ne (q := 10) (q2 := 7) dX8_refusalOfMap_4 rfl rfl (fun _ => ?_) (fun hh => absurd (b2i_n0.mpr (c1)) hh)
      refine ex_aload_n dX8_refusalOfMap_10 rfl rfl ?_
      refine ex_getR (b := 40) dX8_refusalOfMap_11 rfl qp_7_36 rfl rfl ?_
      refine ex_iload_n dX8_refusalOfMap_14 rfl rfl ?_
      refine ex_callV (a := 40) (rest := []) dX8_refusalOfMap_15 rfl qp_7_204 rfl rfl rfl rfl rfl (Nat.le_of_ble_eq_true rfl) (c_isMissing hS hC.2.2.2.2 (by omega)) (Nat.le_of_ble_eq_true rfl) ?_
      show Ex qm_lay _ mX8_refusalOfMap 18 [some (.ref 54), some (.int (nI s))] [.int (b2i (decide (S.1 s = -1)))] σ _ _
      refine ex_if_eq (q := 24) (q2 := 21) dX8_refusalOfMap_18 rfl rfl (fun _ => ?_) (fun hh => absurd (b2i_0.mpr (decide_eq_false c2)) hh)
      refine ex_aload_n dX8_refusalOfMap_24 rfl rfl ?_
      refine ex_getR (b := 40) dX8_refusalOfMap_25 rfl qp_7_36 rfl rfl ?_
      refine ex_getR (b := 42) dX8_refusalOfMap_28 rfl qp_7_246 rfl rfl ?_
      refine ex_iload_n dX8_refusalOfMap_31 rfl rfl ?_
      refine ex_iaload (k := s) (x := nI (S.2.1 s)) dX8_refusalOfMap_32 rfl rfl (rfl) (by omega) (by decide) ((hC.2.2.2.2 s (by omega)).2.1) ?_
      refine ex_aload_n dX8_refusalOfMap_33 rfl rfl ?_
      refine ex_getR (b := 22) dX8_refusalOfMap_34 rfl qp_7_10 rfl rfl ?_
      refine ex_getI (s := 9) (x := nI (tn_L T)) dX8_refusalOfMap_37 rfl qp_7_61 rfl rfl (h.1) ?_
      refine ex_icmp_ne (q := 47) (q2 := 43) dX8_refusalOfMap_40 rfl rfl (fun h40 => ?_) (fun h40 => ?_)
      · have n40 : ¬ (S.2.1 s) = (tn_L T) := mt (nI_eq (a := (S.2.1 s)) (b := (tn_L T)) (by omega) (by omega)).mpr h40
        refine ex_bipush (x := (-2)) dX8_refusalOfMap_47 rfl rfl ?_
        exact ex_iret dX8_refusalOfMap_49 rfl (by rw [if_neg c2, if_neg n40]) (rfl)
      · have n40 : (S.2.1 s) = (tn_L T) := (nI_eq (a := (S.2.1 s)) (b := (tn_L T)) (by omega) (by omega)).mp (Decidable.not_not.mp h40)
        refine ex_iconst (x := 0) dX8_refusalOfMap_43 rfl rfl ?_
        refine ex_goto (q := 49) dX8_refusalOfMap_44 rfl ?_
        exact ex_iret dX8_refusalOfMap_49 rfl (by rw [if_neg c2, if_pos n40]) (rfl)
  · have h : TR σ 9 18 T := hC.1
    refine Ok.of (ls := [some (.ref 54), some (.int x)]) (Nat.le_of_ble_eq_true rfl) rfl ?_
    refine ex_iload_n dX8_refusalOfMap_0 rfl rfl ?_
    refine ex_callS (rest := []) dX8_refusalOfMap_1 rfl qp_7_201 rfl rfl rfl (Nat.le_of_ble_eq_true rfl) (c_isSheet _ _) (Nat.le_of_ble_eq_true rfl) ?_
    show Ex qm_lay _ mX8_refusalOfMap 4 [some (.ref 54), some (.int x)] [.int (b2i (tn_in x 0 3))] σ _ _
    refine ex_if_ne (q := 10) (q2 := 7) dX8_refusalOfMap_4 rfl rfl (fun hh => absurd hh (fun zz => zz (b2i_0.mpr (by simpa using c1)))) (fun _ => ?_)
    refine ex_bipush (x := (-2)) dX8_refusalOfMap_7 rfl rfl ?_
    exact ex_iret dX8_refusalOfMap_9 rfl (by rw [gs_rm_n (by simpa using c1)]) rfl

set_option maxHeartbeats 2000000 in
theorem k_sheetWrong {σ : qm_St} {T : tn_T} {X : gx_T} {P : gt_T} {Im : gi_T} {S : gs_T} (hG : gg_ok (T, X, P, Im, S)) (hM : MG σ (T, X, P, Im, S)) (x : Int32) : Ok qm_lay 20 mX9_sheetWrong [.ref 55, .int x] σ (some (.int (gs_rm T S x))) σ := by
  have hT : tn_ok T := hG.1
  have hX : gx_ok X := hG.2.1
  have hP : gt_ok P := hG.2.2.1
  have hI : gi_ok T (gx_n X) Im := hG.2.2.2.1
  have hS : gs_ok S := hG.2.2.2.2.1
  have hw : tn_w T < gx_n X := hG.2.2.2.2.2
  have hL := hT.1
  have hw6 := hT.2.1
  have hu := tn_u_lt hT
  have hX6 := hX.2.1
  have hP6 := hP.1
  by_cases c1 : tn_in x 0 3 = true
  · obtain ⟨s, hs, rfl⟩ := tn_in_of (n := 3) (by decide) c1
    have h40 := (hS s (by omega)).2
    rw [gs_rm_t (by omega)]
    by_cases c2 : S.1 s = -1
    · have h : MR σ T := hM.1
      refine Ok.of (ls := [some (.ref 55), some (.int (nI s))]) (Nat.le_of_ble_eq_true rfl) rfl ?_
      refine ex_iload_n dX9_sheetWrong_0 rfl rfl ?_
      refine ex_iconst (x := 0) dX9_sheetWrong_1 rfl rfl ?_
      refine ex_iconst (x := 3) dX9_sheetWrong_2 rfl rfl ?_
      refine ex_callS (rest := []) dX9_sheetWrong_3 rfl qp_8_81 rfl rfl rfl (Nat.le_of_ble_eq_true rfl) (k_in _ _ _ _) (Nat.le_of_ble_eq_true rfl) ?_
      show Ex qm_lay _ mX9_sheetWrong 6 [some (.ref 55), some (.int (nI s))] [.int (b2i (tn_in (nI s) 0 3))] σ _ _
      refine ex_if_ne (q := 12) (q2 := 9) dX9_sheetWrong_6 rfl rfl (fun _ => ?_) (fun hh => absurd (b2i_n0.mpr (c1)) hh)
      refine ex_aload_n dX9_sheetWrong_12 rfl rfl ?_
      refine ex_getR (b := 65) dX9_sheetWrong_13 rfl qp_8_37 rfl rfl ?_
      refine ex_iload_n dX9_sheetWrong_16 rfl rfl ?_
      refine ex_iaload (k := s) (x := S.1 s) dX9_sheetWrong_17 rfl rfl (rfl) (by omega) (by decide) ((hM.2.2.2.2.1 s (by omega)).1) ?_
      refine ex_iconst (x := (-1)) dX9_sheetWrong_18 rfl rfl ?_
      refine ex_icmp_ne (q := 25) (q2 := 22) dX9_sheetWrong_19 rfl rfl (fun hh => absurd hh (fun zz => zz c2)) (fun _ => ?_)
      refine ex_bipush (x := (-11)) dX9_sheetWrong_22 rfl rfl ?_
      exact ex_iret dX9_sheetWrong_24 rfl (by rw [if_pos c2]) rfl
    · have h : MR σ T := hM.1
      refine Ok.of (ls := [some (.ref 55), some (.int (nI s))]) (Nat.le_of_ble_eq_true rfl) rfl ?_
      refine ex_iload_n dX9_sheetWrong_0 rfl rfl ?_
      refine ex_iconst (x := 0) dX9_sheetWrong_1 rfl rfl ?_
      refine ex_iconst (x := 3) dX9_sheetWrong_2 rfl rfl ?_
      refine ex_callS (rest := []) dX9_sheetWrong_3 rfl qp_8_81 rfl rfl rfl (Nat.le_of_ble_eq_true rfl) (k_in _ _ _ _) (Nat.le_of_ble_eq_true rfl) ?_
      show Ex qm_lay _ mX9_sheetWrong 6 [some (.ref 55), some (.int (nI s))] [.int (b2i (tn_in (nI s) 0 3))] σ _ _
      refine ex_if_ne (q := 12) (q2 := 9) dX9_sheetWrong_6 rfl rfl (fun _ => ?_) (fun hh => absurd (b2i_n0.mpr (c1)) hh)
      refine ex_aload_n dX9_sheetWrong_12 rfl rfl ?_
      refine ex_getR (b := 65) dX9_sheetWrong_13 rfl qp_8_37 rfl rfl ?_
      refine ex_iload_n dX9_sheetWrong_16 rfl rfl ?_
      refine ex_iaload (k := s) (x := S.1 s) dX9_sheetWrong_17 rfl rfl (rfl) (by omega) (by decide) ((hM.2.2.2.2.1 s (by omega)).1) ?_
      refine ex_iconst (x := (-1)) dX9_sheetWrong_18 rfl rfl ?_
      refine ex_icmp_ne (q := 25) (q2 := 22) dX9_sheetWrong_19 rfl rfl (fun _ => ?_) (fun hh => absurd (c2) hh)
      refine ex_aload_n dX9_sheetWrong_25 rfl rfl ?_
      refine ex_getR (b := 66) dX9_sheetWrong_26 rfl qp_8_40 rfl rfl ?_
      refine ex_iload_n dX9_sheetWrong_29 rfl rfl ?_
      refine ex_iaload (k := s) (x := nI (S.2.1 s)) dX9_sheetWrong_30 rfl rfl (rfl) (by omega) (by decide) ((hM.2.2.2.2.1 s (by omega)).2.1) ?_
      refine ex_aload_n dX9_sheetWrong_31 rfl rfl ?_
      refine ex_getI (s := 27) (x := nI (tn_L T)) dX9_sheetWrong_32 rfl qp_8_78 rfl rfl (h.1.1) ?_
      refine ex_icmp_ne (q := 42) (q2 := 38) dX9_sheetWrong_35 rfl rfl (fun h35 => ?_) (fun h35 => ?_)
      · have n35 : ¬ (S.2.1 s) = (tn_L T) := mt (nI_eq (a := (S.2.1 s)) (b := (tn_L T)) (by omega) (by omega)).mpr h35
        refine ex_bipush (x := (-2)) dX9_sheetWrong_42 rfl rfl ?_
        exact ex_iret dX9_sheetWrong_44 rfl (by rw [if_neg c2, if_neg n35]) (rfl)
      · have n35 : (S.2.1 s) = (tn_L T) := (nI_eq (a := (S.2.1 s)) (b := (tn_L T)) (by omega) (by omega)).mp (Decidable.not_not.mp h35)
        refine ex_iconst (x := 0) dX9_sheetWrong_38 rfl rfl ?_
        refine ex_goto (q := 44) dX9_sheetWrong_39 rfl ?_
        exact ex_iret dX9_sheetWrong_44 rfl (by rw [if_neg c2, if_pos n35]) (rfl)
  · have h : MR σ T := hM.1
    refine Ok.of (ls := [some (.ref 55), some (.int x)]) (Nat.le_of_ble_eq_true rfl) rfl ?_
    refine ex_iload_n dX9_sheetWrong_0 rfl rfl ?_
    refine ex_iconst (x := 0) dX9_sheetWrong_1 rfl rfl ?_
    refine ex_iconst (x := 3) dX9_sheetWrong_2 rfl rfl ?_
    refine ex_callS (rest := []) dX9_sheetWrong_3 rfl qp_8_81 rfl rfl rfl (Nat.le_of_ble_eq_true rfl) (k_in _ _ _ _) (Nat.le_of_ble_eq_true rfl) ?_
    show Ex qm_lay _ mX9_sheetWrong 6 [some (.ref 55), some (.int x)] [.int (b2i (tn_in x 0 3))] σ _ _
    refine ex_if_ne (q := 12) (q2 := 9) dX9_sheetWrong_6 rfl rfl (fun hh => absurd hh (fun zz => zz (b2i_0.mpr (by simpa using c1)))) (fun _ => ?_)
    refine ex_bipush (x := (-2)) dX9_sheetWrong_9 rfl rfl ?_
    exact ex_iret dX9_sheetWrong_11 rfl (by rw [gs_rm_n (by simpa using c1)]) rfl

set_option maxHeartbeats 2000000 in
theorem l_firstOtherwise {σ : qm_St} {T : tn_T} {S : gs_T} (hT : tn_ok T) (hS : gs_ok S) (h : TR σ 9 18 T) (hC : SC σ S) {s m : Nat} (hs4 : s < 4) (hm : m < 128) (hz : S.2.1 s = tn_L T) : ∀ (r k : Nat), k + r = tn_L T → Ex qm_lay 20 mX8_firstOtherwise 2 [some (.ref 54), some (.int (nI s)), some (.int (nI m)), some (.int (nI k))] [] σ (some (.int (ff (fun l => Nat.testBit m l && !decide (S.2.2 s l = tn_cv T l)) r k))) σ := by
  have hL := hT.1
  intro r
  induction r with
  | zero =>
    intro k hk
    refine ex_iload_n dX8_firstOtherwise_2 rfl rfl ?_
    refine ex_aload_n dX8_firstOtherwise_3 rfl rfl ?_
    refine ex_getR (b := 22) dX8_firstOtherwise_4 rfl qp_7_10 rfl rfl ?_
    refine ex_getI (s := 9) (x := nI (tn_L T)) dX8_firstOtherwise_7 rfl qp_7_61 rfl rfl (h.1) ?_
    refine ex_icmp_ge (q := 49) (q2 := 13) dX8_firstOtherwise_10 rfl rfl (fun _ => ?_) (fun hh => absurd (nI_le (by omega) (by omega)) hh)
    refine ex_iconst (x := (-1)) dX8_firstOtherwise_49 rfl rfl ?_
    exact ex_iret dX8_firstOtherwise_50 rfl rfl rfl
  | succ r ih =>
    intro k hk
    rw [ff]
    by_cases hb : Nat.testBit m k = true
    · by_cases hc : S.2.2 s k = tn_cv T k
      · rw [if_neg (by simp [hc])]
        refine ex_iload_n dX8_firstOtherwise_2 rfl rfl ?_
        refine ex_aload_n dX8_firstOtherwise_3 rfl rfl ?_
        refine ex_getR (b := 22) dX8_firstOtherwise_4 rfl qp_7_10 rfl rfl ?_
        refine ex_getI (s := 9) (x := nI (tn_L T)) dX8_firstOtherwise_7 rfl qp_7_61 rfl rfl (h.1) ?_
        refine ex_icmp_ge (q := 49) (q2 := 13) dX8_firstOtherwise_10 rfl rfl (fun hh => absurd hh (nI_ge (by omega) (by omega))) (fun _ => ?_)
        refine ex_iload_n dX8_firstOtherwise_13 rfl rfl ?_
        refine ex_iload_n dX8_firstOtherwise_14 rfl rfl ?_
        refine ex_ishr (z := (nI m) >>> ((nI k) &&& 31)) dX8_firstOtherwise_15 rfl (rfl) ?_
        refine ex_iconst (x := 1) dX8_firstOtherwise_16 rfl rfl ?_
        refine ex_iand (z := b2i (Nat.testBit m k)) dX8_firstOtherwise_17 rfl (nI_bit (by omega) (by omega)) ?_
        refine ex_if_eq (q := 43) (q2 := 21) dX8_firstOtherwise_18 rfl rfl (fun hh => absurd hh (b2i_n0.mpr (hb))) (fun _ => ?_)
        refine ex_aload_n dX8_firstOtherwise_21 rfl rfl ?_
        refine ex_getR (b := 40) dX8_firstOtherwise_22 rfl qp_7_36 rfl rfl ?_
        refine ex_iload_n dX8_firstOtherwise_25 rfl rfl ?_
        refine ex_iload_n dX8_firstOtherwise_26 rfl rfl ?_
        refine ex_callV (a := 40) (rest := []) dX8_firstOtherwise_27 rfl qp_7_249 rfl rfl rfl rfl rfl (Nat.le_of_ble_eq_true rfl) (c_cellAt_t hS hC hs4 (by omega)) (Nat.le_of_ble_eq_true rfl) ?_
        show Ex qm_lay _ mX8_firstOtherwise 30 [some (.ref 54), some (.int (nI s)), some (.int (nI m)), some (.int (nI k))] [.int (S.2.2 s k)] σ _ _
        refine ex_aload_n dX8_firstOtherwise_30 rfl rfl ?_
        refine ex_getR (b := 22) dX8_firstOtherwise_31 rfl qp_7_10 rfl rfl ?_
        refine ex_iload_n dX8_firstOtherwise_34 rfl rfl ?_
        refine ex_callV (a := 22) (rest := [.int (S.2.2 s k)]) dX8_firstOtherwise_35 rfl qp_7_123 rfl rfl rfl rfl rfl (Nat.le_of_ble_eq_true rfl) (c_colourOf_0n hT h (by omega)) (Nat.le_of_ble_eq_true rfl) ?_
        show Ex qm_lay _ mX8_firstOtherwise 38 [some (.ref 54), some (.int (nI s)), some (.int (nI m)), some (.int (nI k))] [.int (tn_cv T k), .int (S.2.2 s k)] σ _ _
        refine ex_icmp_eq (q := 43) (q2 := 41) dX8_firstOtherwise_38 rfl rfl (fun _ => ?_) (fun hh => absurd (hc) hh)
        refine ex_iinc (y := nI (k + 1)) (ls' := [some (.ref 54), some (.int (nI s)), some (.int (nI m)), some (.int (nI (k + 1)))]) dX8_firstOtherwise_43 rfl rfl rfl (nI_add k 1) rfl ?_
        refine ex_goto (q := 2) dX8_firstOtherwise_46 rfl ?_
        exact ih (k + 1) (by omega)
      · rw [if_pos (by simp [hb, hc])]
        refine ex_iload_n dX8_firstOtherwise_2 rfl rfl ?_
        refine ex_aload_n dX8_firstOtherwise_3 rfl rfl ?_
        refine ex_getR (b := 22) dX8_firstOtherwise_4 rfl qp_7_10 rfl rfl ?_
        refine ex_getI (s := 9) (x := nI (tn_L T)) dX8_firstOtherwise_7 rfl qp_7_61 rfl rfl (h.1) ?_
        refine ex_icmp_ge (q := 49) (q2 := 13) dX8_firstOtherwise_10 rfl rfl (fun hh => absurd hh (nI_ge (by omega) (by omega))) (fun _ => ?_)
        refine ex_iload_n dX8_firstOtherwise_13 rfl rfl ?_
        refine ex_iload_n dX8_firstOtherwise_14 rfl rfl ?_
        refine ex_ishr (z := (nI m) >>> ((nI k) &&& 31)) dX8_firstOtherwise_15 rfl (rfl) ?_
        refine ex_iconst (x := 1) dX8_firstOtherwise_16 rfl rfl ?_
        refine ex_iand (z := b2i (Nat.testBit m k)) dX8_firstOtherwise_17 rfl (nI_bit (by omega) (by omega)) ?_
        refine ex_if_eq (q := 43) (q2 := 21) dX8_firstOtherwise_18 rfl rfl (fun hh => absurd hh (b2i_n0.mpr (hb))) (fun _ => ?_)
        refine ex_aload_n dX8_firstOtherwise_21 rfl rfl ?_
        refine ex_getR (b := 40) dX8_firstOtherwise_22 rfl qp_7_36 rfl rfl ?_
        refine ex_iload_n dX8_firstOtherwise_25 rfl rfl ?_
        refine ex_iload_n dX8_firstOtherwise_26 rfl rfl ?_
        refine ex_callV (a := 40) (rest := []) dX8_firstOtherwise_27 rfl qp_7_249 rfl rfl rfl rfl rfl (Nat.le_of_ble_eq_true rfl) (c_cellAt_t hS hC hs4 (by omega)) (Nat.le_of_ble_eq_true rfl) ?_
        show Ex qm_lay _ mX8_firstOtherwise 30 [some (.ref 54), some (.int (nI s)), some (.int (nI m)), some (.int (nI k))] [.int (S.2.2 s k)] σ _ _
        refine ex_aload_n dX8_firstOtherwise_30 rfl rfl ?_
        refine ex_getR (b := 22) dX8_firstOtherwise_31 rfl qp_7_10 rfl rfl ?_
        refine ex_iload_n dX8_firstOtherwise_34 rfl rfl ?_
        refine ex_callV (a := 22) (rest := [.int (S.2.2 s k)]) dX8_firstOtherwise_35 rfl qp_7_123 rfl rfl rfl rfl rfl (Nat.le_of_ble_eq_true rfl) (c_colourOf_0n hT h (by omega)) (Nat.le_of_ble_eq_true rfl) ?_
        show Ex qm_lay _ mX8_firstOtherwise 38 [some (.ref 54), some (.int (nI s)), some (.int (nI m)), some (.int (nI k))] [.int (tn_cv T k), .int (S.2.2 s k)] σ _ _
        refine ex_icmp_eq (q := 43) (q2 := 41) dX8_firstOtherwise_38 rfl rfl (fun hh => absurd hh (hc)) (fun _ => ?_)
        refine ex_iload_n dX8_firstOtherwise_41 rfl rfl ?_
        exact ex_iret dX8_firstOtherwise_42 rfl rfl rfl
    · rw [if_neg (by simp [hb])]
      refine ex_iload_n dX8_firstOtherwise_2 rfl rfl ?_
      refine ex_aload_n dX8_firstOtherwise_3 rfl rfl ?_
      refine ex_getR (b := 22) dX8_firstOtherwise_4 rfl qp_7_10 rfl rfl ?_
      refine ex_getI (s := 9) (x := nI (tn_L T)) dX8_firstOtherwise_7 rfl qp_7_61 rfl rfl (h.1) ?_
      refine ex_icmp_ge (q := 49) (q2 := 13) dX8_firstOtherwise_10 rfl rfl (fun hh => absurd hh (nI_ge (by omega) (by omega))) (fun _ => ?_)
      refine ex_iload_n dX8_firstOtherwise_13 rfl rfl ?_
      refine ex_iload_n dX8_firstOtherwise_14 rfl rfl ?_
      refine ex_ishr (z := (nI m) >>> ((nI k) &&& 31)) dX8_firstOtherwise_15 rfl (rfl) ?_
      refine ex_iconst (x := 1) dX8_firstOtherwise_16 rfl rfl ?_
      refine ex_iand (z := b2i (Nat.testBit m k)) dX8_firstOtherwise_17 rfl (nI_bit (by omega) (by omega)) ?_
      refine ex_if_eq (q := 43) (q2 := 21) dX8_firstOtherwise_18 rfl rfl (fun _ => ?_) (fun hh => absurd (b2i_0.mpr (by simpa using hb)) hh)
      refine ex_iinc (y := nI (k + 1)) (ls' := [some (.ref 54), some (.int (nI s)), some (.int (nI m)), some (.int (nI (k + 1)))]) dX8_firstOtherwise_43 rfl rfl rfl (nI_add k 1) rfl ?_
      refine ex_goto (q := 2) dX8_firstOtherwise_46 rfl ?_
      exact ih (k + 1) (by omega)

theorem c_firstOtherwise {σ : qm_St} {T : tn_T} {S : gs_T} (hT : tn_ok T) (hS : gs_ok S) (h : TR σ 9 18 T) (hC : SC σ S) {s m : Nat} (hs4 : s < 4) (hm : m < 128) (hz : S.2.1 s = tn_L T) : Ok qm_lay 20 mX8_firstOtherwise [.ref 54, .int (nI s), .int (nI m)] σ (some (.int (ff (fun l => Nat.testBit m l && !decide (S.2.2 s l = tn_cv T l)) (tn_L T) 0))) σ := by
  refine Ok.of (ls := [some (.ref 54), some (.int (nI s)), some (.int (nI m)), none]) (Nat.le_of_ble_eq_true rfl) rfl ?_
  refine ex_iconst (x := 0) dX8_firstOtherwise_0 rfl rfl ?_
  refine ex_istore_n (ls' := [some (.ref 54), some (.int (nI s)), some (.int (nI m)), some (.int 0)]) dX8_firstOtherwise_1 rfl (Nat.le_of_ble_eq_true rfl) rfl rfl ?_
  exact l_firstOtherwise hT hS h hC hs4 hm hz (tn_L T) 0 (by omega)

set_option maxHeartbeats 2000000 in
theorem l_unlike {σ : qm_St} {T : tn_T} {S : gs_T} (hT : tn_ok T) (h : MR σ T) (hM : SM σ S) {s : Nat} (hs4 : s < 4) : ∀ (r k : Nat), k + r = tn_L T → Ex qm_lay 0 mX9_unlike 2 [some (.ref 55), some (.int (nI s)), some (.int (nI k))] [] σ (some (.int (ff (fun l => !decide (S.2.2 s l = tn_cv T l)) r k))) σ := by
  have hL := hT.1
  intro r
  induction r with
  | zero =>
    intro k hk
    refine ex_iload_n dX9_unlike_2 rfl rfl ?_
    refine ex_aload_n dX9_unlike_3 rfl rfl ?_
    refine ex_getI (s := 27) (x := nI (tn_L T)) dX9_unlike_4 rfl qp_8_78 rfl rfl (h.1.1) ?_
    refine ex_icmp_ge (q := 38) (q2 := 10) dX9_unlike_7 rfl rfl (fun _ => ?_) (fun hh => absurd (nI_le (by omega) (by omega)) hh)
    refine ex_iconst (x := (-1)) dX9_unlike_38 rfl rfl ?_
    exact ex_iret dX9_unlike_39 rfl rfl rfl
  | succ r ih =>
    intro k hk
    rw [ff]
    by_cases hc : S.2.2 s k = tn_cv T k
    · rw [if_neg (by simp [hc])]
      refine ex_iload_n dX9_unlike_2 rfl rfl ?_
      refine ex_aload_n dX9_unlike_3 rfl rfl ?_
      refine ex_getI (s := 27) (x := nI (tn_L T)) dX9_unlike_4 rfl qp_8_78 rfl rfl (h.1.1) ?_
      refine ex_icmp_ge (q := 38) (q2 := 10) dX9_unlike_7 rfl rfl (fun hh => absurd hh (nI_ge (by omega) (by omega))) (fun _ => ?_)
      refine ex_aload_n dX9_unlike_10 rfl rfl ?_
      refine ex_getR (b := 67) dX9_unlike_11 rfl qp_8_43 rfl rfl ?_
      refine ex_bipush (x := 40) dX9_unlike_14 rfl rfl ?_
      refine ex_iload_n dX9_unlike_16 rfl rfl ?_
      refine ex_imul (z := nI (40 * s)) dX9_unlike_17 rfl (pk_mul 40 s) ?_
      refine ex_iload_n dX9_unlike_18 rfl rfl ?_
      refine ex_iadd (z := nI ((40 * s) + k)) dX9_unlike_19 rfl (nI_add (40 * s) k) ?_
      refine ex_iaload (k := (40 * s) + k) (x := S.2.2 s k) dX9_unlike_20 rfl rfl (rfl) (by omega) (by decide) ((hM s hs4).2.2 k (by omega)) ?_
      refine ex_aload_n dX9_unlike_21 rfl rfl ?_
      refine ex_getR (b := 59) dX9_unlike_22 rfl qp_8_19 rfl rfl ?_
      refine ex_iload_n dX9_unlike_25 rfl rfl ?_
      refine ex_iaload (k := k) (x := tn_cv T k) dX9_unlike_26 rfl rfl (rfl) (by omega) (by decide) (MR.cc h (by omega)) ?_
      refine ex_icmp_eq (q := 32) (q2 := 30) dX9_unlike_27 rfl rfl (fun _ => ?_) (fun hh => absurd (hc) hh)
      refine ex_iinc (y := nI (k + 1)) (ls' := [some (.ref 55), some (.int (nI s)), some (.int (nI (k + 1)))]) dX9_unlike_32 rfl rfl rfl (nI_add k 1) rfl ?_
      refine ex_goto (q := 2) dX9_unlike_35 rfl ?_
      exact ih (k + 1) (by omega)
    · rw [if_pos (by simp [hc])]
      refine ex_iload_n dX9_unlike_2 rfl rfl ?_
      refine ex_aload_n dX9_unlike_3 rfl rfl ?_
      refine ex_getI (s := 27) (x := nI (tn_L T)) dX9_unlike_4 rfl qp_8_78 rfl rfl (h.1.1) ?_
      refine ex_icmp_ge (q := 38) (q2 := 10) dX9_unlike_7 rfl rfl (fun hh => absurd hh (nI_ge (by omega) (by omega))) (fun _ => ?_)
      refine ex_aload_n dX9_unlike_10 rfl rfl ?_
      refine ex_getR (b := 67) dX9_unlike_11 rfl qp_8_43 rfl rfl ?_
      refine ex_bipush (x := 40) dX9_unlike_14 rfl rfl ?_
      refine ex_iload_n dX9_unlike_16 rfl rfl ?_
      refine ex_imul (z := nI (40 * s)) dX9_unlike_17 rfl (pk_mul 40 s) ?_
      refine ex_iload_n dX9_unlike_18 rfl rfl ?_
      refine ex_iadd (z := nI ((40 * s) + k)) dX9_unlike_19 rfl (nI_add (40 * s) k) ?_
      refine ex_iaload (k := (40 * s) + k) (x := S.2.2 s k) dX9_unlike_20 rfl rfl (rfl) (by omega) (by decide) ((hM s hs4).2.2 k (by omega)) ?_
      refine ex_aload_n dX9_unlike_21 rfl rfl ?_
      refine ex_getR (b := 59) dX9_unlike_22 rfl qp_8_19 rfl rfl ?_
      refine ex_iload_n dX9_unlike_25 rfl rfl ?_
      refine ex_iaload (k := k) (x := tn_cv T k) dX9_unlike_26 rfl rfl (rfl) (by omega) (by decide) (MR.cc h (by omega)) ?_
      refine ex_icmp_eq (q := 32) (q2 := 30) dX9_unlike_27 rfl rfl (fun hh => absurd hh (hc)) (fun _ => ?_)
      refine ex_iload_n dX9_unlike_30 rfl rfl ?_
      exact ex_iret dX9_unlike_31 rfl rfl rfl

theorem k_unlike {σ : qm_St} {T : tn_T} {S : gs_T} (hT : tn_ok T) (h : MR σ T) (hM : SM σ S) {s : Nat} (hs4 : s < 4) : Ok qm_lay 0 mX9_unlike [.ref 55, .int (nI s)] σ (some (.int (ff (fun l => !decide (S.2.2 s l = tn_cv T l)) (tn_L T) 0))) σ := by
  refine Ok.of (ls := [some (.ref 55), some (.int (nI s)), none]) (Nat.le_of_ble_eq_true rfl) rfl ?_
  refine ex_iconst (x := 0) dX9_unlike_0 rfl rfl ?_
  refine ex_istore_n (ls' := [some (.ref 55), some (.int (nI s)), some (.int 0)]) dX9_unlike_1 rfl (Nat.le_of_ble_eq_true rfl) rfl rfl ?_
  exact l_unlike hT h hM hs4 (tn_L T) 0 (by omega)

set_option maxHeartbeats 2000000 in
theorem j_judge {T : tn_T} {X : gx_T} {P : gt_T} {Im : gi_T} {S : gs_T} (hG : gg_ok (T, X, P, Im, S)) (s : Int32) : J mX8_judge mX9_judge [.int s] (T, X, P, Im, S) := by
  have hT : tn_ok T := hG.1
  have hX : gx_ok X := hG.2.1
  have hP : gt_ok P := hG.2.2.1
  have hI : gi_ok T (gx_n X) Im := hG.2.2.2.1
  have hS : gs_ok S := hG.2.2.2.2.1
  have hw : tn_w T < gx_n X := hG.2.2.2.2.2
  have hL := hT.1
  have hw6 := hT.2.1
  have hu := tn_u_lt hT
  have hX6 := hX.2.1
  have hP6 := hP.1
  by_cases c1 : gs_rm T S s = 0
  · obtain ⟨s, hs4, rfl, hne, hz⟩ := gs_rm_0 c1
    have hp7 : 2 ^ tn_L T ≤ 128 := Nat.pow_le_pow_right (n := 2) (by omega) hL
    have hp0 := Nat.two_pow_pos (tn_L T)
    have ef : ff (fun l => Nat.testBit (2 ^ tn_L T - 1) l && !decide (S.2.2 s l = tn_cv T l)) (tn_L T) 0 = ff (fun l => !decide (S.2.2 s l = tn_cv T l)) (tn_L T) 0 := ff_cong _ _ (fun l _ hl => by rw [Nat.testBit_two_pow_sub_one, decide_eq_true (show l < tn_L T by omega), Bool.true_and])
    refine J.q hG (.int (ff (fun l => !decide (S.2.2 s l = tn_cv T l)) (tn_L T) 0)) (fun σ hC => ?_) (fun σ hM => ?_)
    · have h : TR σ 9 18 T := hC.1
      refine Ok.of (ls := [some (.ref 54), some (.int (nI s)), none]) (Nat.le_of_ble_eq_true rfl) rfl ?_
      refine ex_aload_n dX8_judge_0 rfl rfl ?_
      refine ex_iload_n dX8_judge_1 rfl rfl ?_
      refine ex_callV (a := 54) (rest := []) dX8_judge_2 rfl qp_7_240 rfl rfl rfl rfl rfl (Nat.le_of_ble_eq_true rfl) (c_refusalOfMap hG hC _) (Nat.le_of_ble_eq_true rfl) ?_
      show Ex qm_lay _ mX8_judge 5 [some (.ref 54), some (.int (nI s)), none] [.int (gs_rm T S (nI s))] σ _ _
      refine ex_istore_n (ls' := [some (.ref 54), some (.int (nI s)), some (.int (gs_rm T S (nI s)))]) dX8_judge_5 rfl (Nat.le_of_ble_eq_true rfl) rfl rfl ?_
      refine ex_iload_n dX8_judge_6 rfl rfl ?_
      refine ex_if_eq (q := 14) (q2 := 10) dX8_judge_7 rfl rfl (fun _ => ?_) (fun hh => absurd (c1) hh)
      refine ex_aload_n dX8_judge_14 rfl rfl ?_
      refine ex_iload_n dX8_judge_15 rfl rfl ?_
      refine ex_iconst (x := 1) dX8_judge_16 rfl rfl ?_
      refine ex_aload_n dX8_judge_17 rfl rfl ?_
      refine ex_getR (b := 22) dX8_judge_18 rfl qp_7_10 rfl rfl ?_
      refine ex_getI (s := 9) (x := nI (tn_L T)) dX8_judge_21 rfl qp_7_61 rfl rfl (h.1) ?_
      refine ex_ishl (z := nI (2 ^ (tn_L T))) dX8_judge_24 rfl (nI_1shl (by omega)) ?_
      refine ex_iconst (x := 1) dX8_judge_25 rfl rfl ?_
      refine ex_isub (z := nI (2 ^ tn_L T - 1)) dX8_judge_26 rfl (pk_sub (b := 1) hp0) ?_
      refine ex_callV (a := 54) (rest := []) dX8_judge_27 rfl qp_7_243 rfl rfl rfl rfl rfl (Nat.le_of_ble_eq_true rfl) (c_firstOtherwise hT hS h hC.2.2.2.2 hs4 (m := 2 ^ tn_L T - 1) (by omega) hz) (Nat.le_of_ble_eq_true rfl) ?_
      show Ex qm_lay _ mX8_judge 30 [some (.ref 54), some (.int (nI s)), some (.int (gs_rm T S (nI s)))] [.int (ff (fun l => Nat.testBit (2 ^ tn_L T - 1) l && !decide (S.2.2 s l = tn_cv T l)) (tn_L T) 0)] σ _ _
      exact ex_iret dX8_judge_30 rfl (by rw [ef]) rfl
    · have h : MR σ T := hM.1
      refine Ok.of (ls := [some (.ref 55), some (.int (nI s)), none]) (Nat.le_of_ble_eq_true rfl) rfl ?_
      refine ex_aload_n dX9_judge_0 rfl rfl ?_
      refine ex_iload_n dX9_judge_1 rfl rfl ?_
      refine ex_callV (a := 55) (rest := []) dX9_judge_2 rfl qp_8_287 rfl rfl rfl rfl rfl (Nat.le_of_ble_eq_true rfl) (k_sheetWrong hG hM _) (Nat.le_of_ble_eq_true rfl) ?_
      show Ex qm_lay _ mX9_judge 5 [some (.ref 55), some (.int (nI s)), none] [.int (gs_rm T S (nI s))] σ _ _
      refine ex_istore_n (ls' := [some (.ref 55), some (.int (nI s)), some (.int (gs_rm T S (nI s)))]) dX9_judge_5 rfl (Nat.le_of_ble_eq_true rfl) rfl rfl ?_
      refine ex_iload_n dX9_judge_6 rfl rfl ?_
      refine ex_if_ne (q := 18) (q2 := 10) dX9_judge_7 rfl rfl (fun hh => absurd hh (fun zz => zz c1)) (fun _ => ?_)
      refine ex_aload_n dX9_judge_10 rfl rfl ?_
      refine ex_iload_n dX9_judge_11 rfl rfl ?_
      refine ex_callV (a := 55) (rest := []) dX9_judge_12 rfl qp_8_290 rfl rfl rfl rfl rfl (Nat.le_of_ble_eq_true rfl) (k_unlike hT h hM.2.2.2.2.1 hs4) (Nat.le_of_ble_eq_true rfl) ?_
      show Ex qm_lay _ mX9_judge 15 [some (.ref 55), some (.int (nI s)), some (.int (gs_rm T S (nI s)))] [.int (ff (fun l => !decide (S.2.2 s l = tn_cv T l)) (tn_L T) 0)] σ _ _
      refine ex_goto (q := 19) dX9_judge_15 rfl ?_
      exact ex_iret dX9_judge_19 rfl rfl rfl
  · refine J.q hG (.int (gs_rm T S s)) (fun σ hC => ?_) (fun σ hM => ?_)
    · have h : TR σ 9 18 T := hC.1
      refine Ok.of (ls := [some (.ref 54), some (.int s), none]) (Nat.le_of_ble_eq_true rfl) rfl ?_
      refine ex_aload_n dX8_judge_0 rfl rfl ?_
      refine ex_iload_n dX8_judge_1 rfl rfl ?_
      refine ex_callV (a := 54) (rest := []) dX8_judge_2 rfl qp_7_240 rfl rfl rfl rfl rfl (Nat.le_of_ble_eq_true rfl) (c_refusalOfMap hG hC _) (Nat.le_of_ble_eq_true rfl) ?_
      show Ex qm_lay _ mX8_judge 5 [some (.ref 54), some (.int s), none] [.int (gs_rm T S s)] σ _ _
      refine ex_istore_n (ls' := [some (.ref 54), some (.int s), some (.int (gs_rm T S s))]) dX8_judge_5 rfl (Nat.le_of_ble_eq_true rfl) rfl rfl ?_
      refine ex_iload_n dX8_judge_6 rfl rfl ?_
      refine ex_if_eq (q := 14) (q2 := 10) dX8_judge_7 rfl rfl (fun hh => absurd hh (c1)) (fun _ => ?_)
      refine ex_iload_n dX8_judge_10 rfl rfl ?_
      refine ex_goto (q := 30) dX8_judge_11 rfl ?_
      exact ex_iret dX8_judge_30 rfl rfl rfl
    · have h : MR σ T := hM.1
      refine Ok.of (ls := [some (.ref 55), some (.int s), none]) (Nat.le_of_ble_eq_true rfl) rfl ?_
      refine ex_aload_n dX9_judge_0 rfl rfl ?_
      refine ex_iload_n dX9_judge_1 rfl rfl ?_
      refine ex_callV (a := 55) (rest := []) dX9_judge_2 rfl qp_8_287 rfl rfl rfl rfl rfl (Nat.le_of_ble_eq_true rfl) (k_sheetWrong hG hM _) (Nat.le_of_ble_eq_true rfl) ?_
      show Ex qm_lay _ mX9_judge 5 [some (.ref 55), some (.int s), none] [.int (gs_rm T S s)] σ _ _
      refine ex_istore_n (ls' := [some (.ref 55), some (.int s), some (.int (gs_rm T S s))]) dX9_judge_5 rfl (Nat.le_of_ble_eq_true rfl) rfl rfl ?_
      refine ex_iload_n dX9_judge_6 rfl rfl ?_
      refine ex_if_ne (q := 18) (q2 := 10) dX9_judge_7 rfl rfl (fun _ => ?_) (fun hh => absurd (c1) hh)
      refine ex_iload_n dX9_judge_18 rfl rfl ?_
      exact ex_iret dX9_judge_19 rfl rfl rfl

set_option maxHeartbeats 2000000 in
theorem l_lotsBy {X : gx_T} {P : gt_T} {Im : gi_T} {S : gs_T} {s a n : Nat} (hs4 : s < 4) (ha : a ≤ 40) (hn : n ≤ 7) (sort : Int32) : ∀ (r k p : Nat) (c : Int32) (x y z : Option Value) (T : tn_T), k + r = n → p = a + 3 * k → gg_ok (T, X, P, Im, S) → (qm_free [none, none, none, none, none, none, none, y, none] 8 = true) → JL mX8_lotsBy mX9_lotsBy 70 64 [some (.ref 54), some (.int (nI s)), some (.int sort), some (.int (nI a)), some (.int (nI n)), some (.int c), some (.int (nI p)), some (.int (nI k)), x] [some (.ref 55), some (.int (nI s)), some (.int sort), some (.int (nI a)), some (.int (nI n)), some (.int c), some (.int (nI k)), y, z] (T, X, P, Im, S) := by
  intro r
  induction r with
  | zero =>
    intro k p c x y z T hk hp hG hfy
    have hT : tn_ok T := hG.1
    have hX : gx_ok X := hG.2.1
    have hP : gt_ok P := hG.2.2.1
    have hI : gi_ok T (gx_n X) Im := hG.2.2.2.1
    have hS : gs_ok S := hG.2.2.2.2.1
    have hw : tn_w T < gx_n X := hG.2.2.2.2.2
    have hL := hT.1
    have hw6 := hT.2.1
    have hu := tn_u_lt hT
    have hX6 := hX.2.1
    have hP6 := hP.1
    have h40 := (hS s hs4).2
    refine ⟨.int c, _, hG, fun σ hC => ⟨σ, ?_, hC, sm.rf _ _ _ _ _⟩, fun σ hM => ⟨σ, ?_, hM, sm.rf _ _ _ _ _⟩⟩
    · refine ex_iload dX8_lotsBy_70 rfl rfl ?_
      refine ex_iload dX8_lotsBy_72 rfl rfl ?_
      refine ex_icmp_ge (q := 158) (q2 := 77) dX8_lotsBy_74 rfl rfl (fun _ => ?_) (fun hh => absurd (nI_le (by omega) (by omega)) hh)
      refine ex_iload dX8_lotsBy_158 rfl rfl ?_
      exact ex_iret dX8_lotsBy_160 rfl rfl rfl
    · refine ex_iload dX9_lotsBy_64 rfl rfl ?_
      refine ex_iload dX9_lotsBy_66 rfl rfl ?_
      refine ex_icmp_ge (q := 162) (q2 := 71) dX9_lotsBy_68 rfl rfl (fun _ => ?_) (fun hh => absurd (nI_le (by omega) (by omega)) hh)
      refine ex_iload dX9_lotsBy_162 rfl rfl ?_
      exact ex_iret dX9_lotsBy_164 rfl rfl rfl
  | succ r ih =>
    intro k p c x y z T hk hp hG hfy
    have hT : tn_ok T := hG.1
    have hX : gx_ok X := hG.2.1
    have hP : gt_ok P := hG.2.2.1
    have hI : gi_ok T (gx_n X) Im := hG.2.2.2.1
    have hS : gs_ok S := hG.2.2.2.2.1
    have hw : tn_w T < gx_n X := hG.2.2.2.2.2
    have hL := hT.1
    have hw6 := hT.2.1
    have hu := tn_u_lt hT
    have hX6 := hX.2.1
    have hP6 := hP.1
    have h40 := (hS s hs4).2
    by_cases c1 : gs_hr (S.2.1 s) (nI p) 3 = true
    · have c2 := (gs_hr3 h40 _).mp c1
      have c3 : p + 3 ≤ S.2.1 s := by
        have c4 := of_decide_eq_true c1
        have c5 : p ≤ S.2.1 s := (nI_leI (by omega) (by omega)).mp c4.2.1
        have c6 := c4.2.2
        rw [pk_sub c5] at c6
        have := (nI_leI (a := 3) (by decide) (by omega)).mp c6
        omega
      obtain ⟨q, T1, hG1, hlC, hlM⟩ := j_lot hG (S.2.2 s p) (S.2.2 s (p + 1)) (S.2.2 s (p + 2))
      obtain ⟨v, G', hG2, hC2, hM2⟩ := ih (k + 1) (p + 3) (c + if q < 0 then 0 else 1) (some (.int q)) (some (.int (nI (a + 3 * k)))) (some (.int (nI (40 * s + (a + 3 * k))))) T1 (by omega) (by omega) hG1 rfl
      refine ⟨v, G', hG2, fun σ hC => ?_, fun σ hM => ?_⟩
      · obtain ⟨σ1, hO, hC1, hs1⟩ := hlC σ hC
        obtain ⟨σ', hE, hC3, hs3⟩ := hC2 σ1 hC1
        refine ⟨σ', ?_, hC3, hs1.tr hs3⟩
        by_cases c7 : q < 0
        · refine ex_iload dX8_lotsBy_70 rfl rfl ?_
          refine ex_iload dX8_lotsBy_72 rfl rfl ?_
          refine ex_icmp_ge (q := 158) (q2 := 77) dX8_lotsBy_74 rfl rfl (fun hh => absurd hh (nI_ge (by omega) (by omega))) (fun _ => ?_)
          refine ex_aload_n dX8_lotsBy_77 rfl rfl ?_
          refine ex_getR (b := 40) dX8_lotsBy_78 rfl qp_7_36 rfl rfl ?_
          refine ex_iload_n dX8_lotsBy_81 rfl rfl ?_
          refine ex_iload dX8_lotsBy_82 rfl rfl ?_
          refine ex_iconst (x := 3) dX8_lotsBy_84 rfl rfl ?_
          refine ex_callV (a := 40) (rest := []) dX8_lotsBy_85 rfl qp_7_291 rfl rfl rfl rfl rfl (Nat.le_of_ble_eq_true rfl) (c_hasRange hS hC.2.2.2.2 (by omega) _ _) (Nat.le_of_ble_eq_true rfl) ?_
          show Ex qm_lay _ mX8_lotsBy 88 [some (.ref 54), some (.int (nI s)), some (.int sort), some (.int (nI a)), some (.int (nI n)), some (.int c), some (.int (nI p)), some (.int (nI k)), x] [.int (b2i (gs_hr (S.2.1 s) (nI p) 3))] σ _ _
          refine ex_if_ne (q := 94) (q2 := 91) dX8_lotsBy_88 rfl rfl (fun _ => ?_) (fun hh => absurd (b2i_n0.mpr (c1)) hh)
          refine ex_aload_n dX8_lotsBy_94 rfl rfl ?_
          refine ex_aload_n dX8_lotsBy_95 rfl rfl ?_
          refine ex_getR (b := 40) dX8_lotsBy_96 rfl qp_7_36 rfl rfl ?_
          refine ex_iload_n dX8_lotsBy_99 rfl rfl ?_
          refine ex_iload dX8_lotsBy_100 rfl rfl ?_
          refine ex_callV (a := 40) (rest := [.ref 54]) dX8_lotsBy_102 rfl qp_7_249 rfl rfl rfl rfl rfl (Nat.le_of_ble_eq_true rfl) (c_cellAt_t hS hC.2.2.2.2 hs4 (by omega)) (Nat.le_of_ble_eq_true rfl) ?_
          show Ex qm_lay _ mX8_lotsBy 105 [some (.ref 54), some (.int (nI s)), some (.int sort), some (.int (nI a)), some (.int (nI n)), some (.int c), some (.int (nI p)), some (.int (nI k)), x] [.int (S.2.2 s p), .ref 54] σ _ _
          refine ex_aload_n dX8_lotsBy_105 rfl rfl ?_
          refine ex_getR (b := 40) dX8_lotsBy_106 rfl qp_7_36 rfl rfl ?_
          refine ex_iload_n dX8_lotsBy_109 rfl rfl ?_
          refine ex_iload dX8_lotsBy_110 rfl rfl ?_
          refine ex_iconst (x := 1) dX8_lotsBy_112 rfl rfl ?_
          refine ex_iadd (z := nI (p + 1)) dX8_lotsBy_113 rfl (nI_add p 1) ?_
          refine ex_callV (a := 40) (rest := [.int (S.2.2 s p), .ref 54]) dX8_lotsBy_114 rfl qp_7_249 rfl rfl rfl rfl rfl (Nat.le_of_ble_eq_true rfl) (c_cellAt_t hS hC.2.2.2.2 hs4 (by omega)) (Nat.le_of_ble_eq_true rfl) ?_
          show Ex qm_lay _ mX8_lotsBy 117 [some (.ref 54), some (.int (nI s)), some (.int sort), some (.int (nI a)), some (.int (nI n)), some (.int c), some (.int (nI p)), some (.int (nI k)), x] [.int (S.2.2 s (p + 1)), .int (S.2.2 s p), .ref 54] σ _ _
          refine ex_aload_n dX8_lotsBy_117 rfl rfl ?_
          refine ex_getR (b := 40) dX8_lotsBy_118 rfl qp_7_36 rfl rfl ?_
          refine ex_iload_n dX8_lotsBy_121 rfl rfl ?_
          refine ex_iload dX8_lotsBy_122 rfl rfl ?_
          refine ex_iconst (x := 2) dX8_lotsBy_124 rfl rfl ?_
          refine ex_iadd (z := nI (p + 2)) dX8_lotsBy_125 rfl (nI_add p 2) ?_
          refine ex_callV (a := 40) (rest := [.int (S.2.2 s (p + 1)), .int (S.2.2 s p), .ref 54]) dX8_lotsBy_126 rfl qp_7_249 rfl rfl rfl rfl rfl (Nat.le_of_ble_eq_true rfl) (c_cellAt_t hS hC.2.2.2.2 hs4 (by omega)) (Nat.le_of_ble_eq_true rfl) ?_
          show Ex qm_lay _ mX8_lotsBy 129 [some (.ref 54), some (.int (nI s)), some (.int sort), some (.int (nI a)), some (.int (nI n)), some (.int c), some (.int (nI p)), some (.int (nI k)), x] [.int (S.2.2 s (p + 2)), .int (S.2.2 s (p + 1)), .int (S.2.2 s p), .ref 54] σ _ _
          refine ex_callV (a := 54) (rest := []) dX8_lotsBy_129 rfl qp_7_300 rfl rfl rfl rfl rfl (Nat.le_of_ble_eq_true rfl) (hO) (Nat.le_of_ble_eq_true rfl) ?_
          show Ex qm_lay _ mX8_lotsBy 132 [some (.ref 54), some (.int (nI s)), some (.int sort), some (.int (nI a)), some (.int (nI n)), some (.int c), some (.int (nI p)), some (.int (nI k)), x] [.int q] σ1 _ _
          refine ex_istore (ls' := [some (.ref 54), some (.int (nI s)), some (.int sort), some (.int (nI a)), some (.int (nI n)), some (.int c), some (.int (nI p)), some (.int (nI k)), some (.int q)]) dX8_lotsBy_132 rfl (Nat.le_of_ble_eq_true rfl) rfl rfl ?_
          refine ex_iload dX8_lotsBy_134 rfl rfl ?_
          refine ex_iload dX8_lotsBy_136 rfl rfl ?_
          refine ex_if_lt (q := 145) (q2 := 141) dX8_lotsBy_138 rfl rfl (fun _ => ?_) (fun hh => absurd (c7) hh)
          refine ex_iconst (x := 0) dX8_lotsBy_145 rfl rfl ?_
          refine ex_iadd (z := c + 0) dX8_lotsBy_146 rfl (rfl) ?_
          refine ex_istore (ls' := [some (.ref 54), some (.int (nI s)), some (.int sort), some (.int (nI a)), some (.int (nI n)), some (.int (c + 0)), some (.int (nI p)), some (.int (nI k)), some (.int q)]) dX8_lotsBy_147 rfl (Nat.le_of_ble_eq_true rfl) rfl rfl ?_
          refine ex_iinc (y := nI (p + 3)) (ls' := [some (.ref 54), some (.int (nI s)), some (.int sort), some (.int (nI a)), some (.int (nI n)), some (.int (c + 0)), some (.int (nI (p + 3))), some (.int (nI k)), some (.int q)]) dX8_lotsBy_149 rfl rfl rfl (nI_add p 3) rfl ?_
          refine ex_iinc (y := nI (k + 1)) (ls' := [some (.ref 54), some (.int (nI s)), some (.int sort), some (.int (nI a)), some (.int (nI n)), some (.int (c + 0)), some (.int (nI (p + 3))), some (.int (nI (k + 1))), some (.int q)]) dX8_lotsBy_152 rfl rfl rfl (nI_add k 1) rfl ?_
          refine ex_goto (q := 70) dX8_lotsBy_155 rfl ?_
          rw [if_pos c7] at hE
          exact hE
        · refine ex_iload dX8_lotsBy_70 rfl rfl ?_
          refine ex_iload dX8_lotsBy_72 rfl rfl ?_
          refine ex_icmp_ge (q := 158) (q2 := 77) dX8_lotsBy_74 rfl rfl (fun hh => absurd hh (nI_ge (by omega) (by omega))) (fun _ => ?_)
          refine ex_aload_n dX8_lotsBy_77 rfl rfl ?_
          refine ex_getR (b := 40) dX8_lotsBy_78 rfl qp_7_36 rfl rfl ?_
          refine ex_iload_n dX8_lotsBy_81 rfl rfl ?_
          refine ex_iload dX8_lotsBy_82 rfl rfl ?_
          refine ex_iconst (x := 3) dX8_lotsBy_84 rfl rfl ?_
          refine ex_callV (a := 40) (rest := []) dX8_lotsBy_85 rfl qp_7_291 rfl rfl rfl rfl rfl (Nat.le_of_ble_eq_true rfl) (c_hasRange hS hC.2.2.2.2 (by omega) _ _) (Nat.le_of_ble_eq_true rfl) ?_
          show Ex qm_lay _ mX8_lotsBy 88 [some (.ref 54), some (.int (nI s)), some (.int sort), some (.int (nI a)), some (.int (nI n)), some (.int c), some (.int (nI p)), some (.int (nI k)), x] [.int (b2i (gs_hr (S.2.1 s) (nI p) 3))] σ _ _
          refine ex_if_ne (q := 94) (q2 := 91) dX8_lotsBy_88 rfl rfl (fun _ => ?_) (fun hh => absurd (b2i_n0.mpr (c1)) hh)
          refine ex_aload_n dX8_lotsBy_94 rfl rfl ?_
          refine ex_aload_n dX8_lotsBy_95 rfl rfl ?_
          refine ex_getR (b := 40) dX8_lotsBy_96 rfl qp_7_36 rfl rfl ?_
          refine ex_iload_n dX8_lotsBy_99 rfl rfl ?_
          refine ex_iload dX8_lotsBy_100 rfl rfl ?_
          refine ex_callV (a := 40) (rest := [.ref 54]) dX8_lotsBy_102 rfl qp_7_249 rfl rfl rfl rfl rfl (Nat.le_of_ble_eq_true rfl) (c_cellAt_t hS hC.2.2.2.2 hs4 (by omega)) (Nat.le_of_ble_eq_true rfl) ?_
          show Ex qm_lay _ mX8_lotsBy 105 [some (.ref 54), some (.int (nI s)), some (.int sort), some (.int (nI a)), some (.int (nI n)), some (.int c), some (.int (nI p)), some (.int (nI k)), x] [.int (S.2.2 s p), .ref 54] σ _ _
          refine ex_aload_n dX8_lotsBy_105 rfl rfl ?_
          refine ex_getR (b := 40) dX8_lotsBy_106 rfl qp_7_36 rfl rfl ?_
          refine ex_iload_n dX8_lotsBy_109 rfl rfl ?_
          refine ex_iload dX8_lotsBy_110 rfl rfl ?_
          refine ex_iconst (x := 1) dX8_lotsBy_112 rfl rfl ?_
          refine ex_iadd (z := nI (p + 1)) dX8_lotsBy_113 rfl (nI_add p 1) ?_
          refine ex_callV (a := 40) (rest := [.int (S.2.2 s p), .ref 54]) dX8_lotsBy_114 rfl qp_7_249 rfl rfl rfl rfl rfl (Nat.le_of_ble_eq_true rfl) (c_cellAt_t hS hC.2.2.2.2 hs4 (by omega)) (Nat.le_of_ble_eq_true rfl) ?_
          show Ex qm_lay _ mX8_lotsBy 117 [some (.ref 54), some (.int (nI s)), some (.int sort), some (.int (nI a)), some (.int (nI n)), some (.int c), some (.int (nI p)), some (.int (nI k)), x] [.int (S.2.2 s (p + 1)), .int (S.2.2 s p), .ref 54] σ _ _
          refine ex_aload_n dX8_lotsBy_117 rfl rfl ?_
          refine ex_getR (b := 40) dX8_lotsBy_118 rfl qp_7_36 rfl rfl ?_
          refine ex_iload_n dX8_lotsBy_121 rfl rfl ?_
          refine ex_iload dX8_lotsBy_122 rfl rfl ?_
          refine ex_iconst (x := 2) dX8_lotsBy_124 rfl rfl ?_
          refine ex_iadd (z := nI (p + 2)) dX8_lotsBy_125 rfl (nI_add p 2) ?_
          refine ex_callV (a := 40) (rest := [.int (S.2.2 s (p + 1)), .int (S.2.2 s p), .ref 54]) dX8_lotsBy_126 rfl qp_7_249 rfl rfl rfl rfl rfl (Nat.le_of_ble_eq_true rfl) (c_cellAt_t hS hC.2.2.2.2 hs4 (by omega)) (Nat.le_of_ble_eq_true rfl) ?_
          show Ex qm_lay _ mX8_lotsBy 129 [some (.ref 54), some (.int (nI s)), some (.int sort), some (.int (nI a)), some (.int (nI n)), some (.int c), some (.int (nI p)), some (.int (nI k)), x] [.int (S.2.2 s (p + 2)), .int (S.2.2 s (p + 1)), .int (S.2.2 s p), .ref 54] σ _ _
          refine ex_callV (a := 54) (rest := []) dX8_lotsBy_129 rfl qp_7_300 rfl rfl rfl rfl rfl (Nat.le_of_ble_eq_true rfl) (hO) (Nat.le_of_ble_eq_true rfl) ?_
          show Ex qm_lay _ mX8_lotsBy 132 [some (.ref 54), some (.int (nI s)), some (.int sort), some (.int (nI a)), some (.int (nI n)), some (.int c), some (.int (nI p)), some (.int (nI k)), x] [.int q] σ1 _ _
          refine ex_istore (ls' := [some (.ref 54), some (.int (nI s)), some (.int sort), some (.int (nI a)), some (.int (nI n)), some (.int c), some (.int (nI p)), some (.int (nI k)), some (.int q)]) dX8_lotsBy_132 rfl (Nat.le_of_ble_eq_true rfl) rfl rfl ?_
          refine ex_iload dX8_lotsBy_134 rfl rfl ?_
          refine ex_iload dX8_lotsBy_136 rfl rfl ?_
          refine ex_if_lt (q := 145) (q2 := 141) dX8_lotsBy_138 rfl rfl (fun hh => absurd hh (c7)) (fun _ => ?_)
          refine ex_iconst (x := 1) dX8_lotsBy_141 rfl rfl ?_
          refine ex_goto (q := 146) dX8_lotsBy_142 rfl ?_
          refine ex_iadd (z := c + 1) dX8_lotsBy_146 rfl (rfl) ?_
          refine ex_istore (ls' := [some (.ref 54), some (.int (nI s)), some (.int sort), some (.int (nI a)), some (.int (nI n)), some (.int (c + 1)), some (.int (nI p)), some (.int (nI k)), some (.int q)]) dX8_lotsBy_147 rfl (Nat.le_of_ble_eq_true rfl) rfl rfl ?_
          refine ex_iinc (y := nI (p + 3)) (ls' := [some (.ref 54), some (.int (nI s)), some (.int sort), some (.int (nI a)), some (.int (nI n)), some (.int (c + 1)), some (.int (nI (p + 3))), some (.int (nI k)), some (.int q)]) dX8_lotsBy_149 rfl rfl rfl (nI_add p 3) rfl ?_
          refine ex_iinc (y := nI (k + 1)) (ls' := [some (.ref 54), some (.int (nI s)), some (.int sort), some (.int (nI a)), some (.int (nI n)), some (.int (c + 1)), some (.int (nI (p + 3))), some (.int (nI (k + 1))), some (.int q)]) dX8_lotsBy_152 rfl rfl rfl (nI_add k 1) rfl ?_
          refine ex_goto (q := 70) dX8_lotsBy_155 rfl ?_
          rw [if_neg c7] at hE
          exact hE
      · obtain ⟨σ1, hO, hM1, hs1⟩ := hlM σ hM
        obtain ⟨σ', hE, hM3, hs3⟩ := hM2 σ1 hM1
        refine ⟨σ', ?_, hM3, hs1.tr hs3⟩
        have e3 : p = a + 3 * k := hp
        subst e3
        by_cases c7 : q < 0
        · refine ex_iload dX9_lotsBy_64 rfl rfl ?_
          refine ex_iload dX9_lotsBy_66 rfl rfl ?_
          refine ex_icmp_ge (q := 162) (q2 := 71) dX9_lotsBy_68 rfl rfl (fun hh => absurd hh (nI_ge (by omega) (by omega))) (fun _ => ?_)
          refine ex_iload_n dX9_lotsBy_71 rfl rfl ?_
          refine ex_iconst (x := 3) dX9_lotsBy_72 rfl rfl ?_
          refine ex_iload dX9_lotsBy_73 rfl rfl ?_
          refine ex_imul (z := nI (3 * k)) dX9_lotsBy_75 rfl (pk_mul 3 k) ?_
          refine ex_iadd (z := nI (a + (3 * k))) dX9_lotsBy_76 rfl (nI_add a (3 * k)) ?_
          refine ex_istore (ls' := [some (.ref 55), some (.int (nI s)), some (.int sort), some (.int (nI a)), some (.int (nI n)), some (.int c), some (.int (nI k)), some (.int (nI (a + (3 * k)))), z]) dX9_lotsBy_77 rfl (Nat.le_of_ble_eq_true rfl) rfl rfl ?_
          refine ex_iload_n dX9_lotsBy_79 rfl rfl ?_
          refine ex_if_lt (q := 102) (q2 := 83) dX9_lotsBy_80 rfl rfl (fun hh => absurd hh (nI_pos (by omega))) (fun _ => ?_)
          refine ex_iload dX9_lotsBy_83 rfl rfl ?_
          refine ex_iload_n dX9_lotsBy_85 rfl rfl ?_
          refine ex_icmp_lt (q := 102) (q2 := 89) dX9_lotsBy_86 rfl rfl (fun hh => absurd hh (nI_nlt (a := (a + (3 * k))) (b := a) (by omega) (by omega))) (fun _ => ?_)
          refine ex_iload dX9_lotsBy_89 rfl rfl ?_
          refine ex_aload_n dX9_lotsBy_91 rfl rfl ?_
          refine ex_getR (b := 66) dX9_lotsBy_92 rfl qp_8_40 rfl rfl ?_
          refine ex_iload_n dX9_lotsBy_95 rfl rfl ?_
          refine ex_iaload (k := s) (x := nI (S.2.1 s)) dX9_lotsBy_96 rfl rfl (rfl) (by omega) (by decide) ((hM.2.2.2.2.1 s (by omega)).2.1) ?_
          refine ex_iconst (x := 3) dX9_lotsBy_97 rfl rfl ?_
          refine ex_isub (z := nI (S.2.1 s) - 3) dX9_lotsBy_98 rfl (rfl) ?_
          refine ex_icmp_le (q := 105) (q2 := 102) dX9_lotsBy_99 rfl rfl (fun _ => ?_) (fun hh => absurd (c2.2) hh)
          refine ex_bipush (x := 40) dX9_lotsBy_105 rfl rfl ?_
          refine ex_iload_n dX9_lotsBy_107 rfl rfl ?_
          refine ex_imul (z := nI (40 * s)) dX9_lotsBy_108 rfl (pk_mul 40 s) ?_
          refine ex_iload dX9_lotsBy_109 rfl rfl ?_
          refine ex_iadd (z := nI ((40 * s) + (a + (3 * k)))) dX9_lotsBy_111 rfl (nI_add (40 * s) (a + (3 * k))) ?_
          refine ex_istore (ls' := [some (.ref 55), some (.int (nI s)), some (.int sort), some (.int (nI a)), some (.int (nI n)), some (.int c), some (.int (nI k)), some (.int (nI (a + (3 * k)))), some (.int (nI ((40 * s) + (a + (3 * k)))))]) dX9_lotsBy_112 rfl (Nat.le_of_ble_eq_true rfl) rfl rfl ?_
          refine ex_iload dX9_lotsBy_114 rfl rfl ?_
          refine ex_aload_n dX9_lotsBy_116 rfl rfl ?_
          refine ex_aload_n dX9_lotsBy_117 rfl rfl ?_
          refine ex_getR (b := 67) dX9_lotsBy_118 rfl qp_8_43 rfl rfl ?_
          refine ex_iload dX9_lotsBy_121 rfl rfl ?_
          refine ex_iaload (k := (40 * s) + (a + (3 * k))) (x := S.2.2 s (a + (3 * k))) dX9_lotsBy_123 rfl rfl (rfl) (by omega) (by decide) ((by have := (hM.2.2.2.2.1 s hs4).2.2 (a + 3 * k) (by omega); exact this)) ?_
          refine ex_aload_n dX9_lotsBy_124 rfl rfl ?_
          refine ex_getR (b := 67) dX9_lotsBy_125 rfl qp_8_43 rfl rfl ?_
          refine ex_iload dX9_lotsBy_128 rfl rfl ?_
          refine ex_iconst (x := 1) dX9_lotsBy_130 rfl rfl ?_
          refine ex_iadd (z := nI (((40 * s) + (a + (3 * k))) + 1)) dX9_lotsBy_131 rfl (nI_add ((40 * s) + (a + (3 * k))) 1) ?_
          refine ex_iaload (k := ((40 * s) + (a + (3 * k))) + 1) (x := S.2.2 s (a + 3 * k + 1)) dX9_lotsBy_132 rfl rfl (rfl) (by omega) (by decide) ((by have := (hM.2.2.2.2.1 s hs4).2.2 (a + 3 * k + 1) (by omega); exact this)) ?_
          refine ex_aload_n dX9_lotsBy_133 rfl rfl ?_
          refine ex_getR (b := 67) dX9_lotsBy_134 rfl qp_8_43 rfl rfl ?_
          refine ex_iload dX9_lotsBy_137 rfl rfl ?_
          refine ex_iconst (x := 2) dX9_lotsBy_139 rfl rfl ?_
          refine ex_iadd (z := nI (((40 * s) + (a + (3 * k))) + 2)) dX9_lotsBy_140 rfl (nI_add ((40 * s) + (a + (3 * k))) 2) ?_
          refine ex_iaload (k := ((40 * s) + (a + (3 * k))) + 2) (x := S.2.2 s (a + 3 * k + 2)) dX9_lotsBy_141 rfl rfl (rfl) (by omega) (by decide) ((by have := (hM.2.2.2.2.1 s hs4).2.2 (a + 3 * k + 2) (by omega); exact this)) ?_
          refine ex_callV (a := 55) (rest := [.int c]) dX9_lotsBy_142 rfl qp_8_323 rfl rfl rfl rfl rfl (Nat.le_of_ble_eq_true rfl) (hO) (Nat.le_of_ble_eq_true rfl) ?_
          show Ex qm_lay _ mX9_lotsBy 145 [some (.ref 55), some (.int (nI s)), some (.int sort), some (.int (nI a)), some (.int (nI n)), some (.int c), some (.int (nI k)), some (.int (nI (a + (3 * k)))), some (.int (nI ((40 * s) + (a + (3 * k)))))] [.int q, .int c] σ1 _ _
          refine ex_if_lt (q := 152) (q2 := 148) dX9_lotsBy_145 rfl rfl (fun _ => ?_) (fun hh => absurd (c7) hh)
          refine ex_iconst (x := 0) dX9_lotsBy_152 rfl rfl ?_
          refine ex_iadd (z := c + 0) dX9_lotsBy_153 rfl (rfl) ?_
          refine ex_istore (ls' := [some (.ref 55), some (.int (nI s)), some (.int sort), some (.int (nI a)), some (.int (nI n)), some (.int (c + 0)), some (.int (nI k)), some (.int (nI (a + (3 * k)))), some (.int (nI ((40 * s) + (a + (3 * k)))))]) dX9_lotsBy_154 rfl (Nat.le_of_ble_eq_true rfl) rfl rfl ?_
          refine ex_iinc (y := nI (k + 1)) (ls' := [some (.ref 55), some (.int (nI s)), some (.int sort), some (.int (nI a)), some (.int (nI n)), some (.int (c + 0)), some (.int (nI (k + 1))), some (.int (nI (a + (3 * k)))), some (.int (nI ((40 * s) + (a + (3 * k)))))]) dX9_lotsBy_156 rfl rfl rfl (nI_add k 1) rfl ?_
          refine ex_goto (q := 64) dX9_lotsBy_159 rfl ?_
          rw [if_pos c7] at hE
          exact hE
        · refine ex_iload dX9_lotsBy_64 rfl rfl ?_
          refine ex_iload dX9_lotsBy_66 rfl rfl ?_
          refine ex_icmp_ge (q := 162) (q2 := 71) dX9_lotsBy_68 rfl rfl (fun hh => absurd hh (nI_ge (by omega) (by omega))) (fun _ => ?_)
          refine ex_iload_n dX9_lotsBy_71 rfl rfl ?_
          refine ex_iconst (x := 3) dX9_lotsBy_72 rfl rfl ?_
          refine ex_iload dX9_lotsBy_73 rfl rfl ?_
          refine ex_imul (z := nI (3 * k)) dX9_lotsBy_75 rfl (pk_mul 3 k) ?_
          refine ex_iadd (z := nI (a + (3 * k))) dX9_lotsBy_76 rfl (nI_add a (3 * k)) ?_
          refine ex_istore (ls' := [some (.ref 55), some (.int (nI s)), some (.int sort), some (.int (nI a)), some (.int (nI n)), some (.int c), some (.int (nI k)), some (.int (nI (a + (3 * k)))), z]) dX9_lotsBy_77 rfl (Nat.le_of_ble_eq_true rfl) rfl rfl ?_
          refine ex_iload_n dX9_lotsBy_79 rfl rfl ?_
          refine ex_if_lt (q := 102) (q2 := 83) dX9_lotsBy_80 rfl rfl (fun hh => absurd hh (nI_pos (by omega))) (fun _ => ?_)
          refine ex_iload dX9_lotsBy_83 rfl rfl ?_
          refine ex_iload_n dX9_lotsBy_85 rfl rfl ?_
          refine ex_icmp_lt (q := 102) (q2 := 89) dX9_lotsBy_86 rfl rfl (fun hh => absurd hh (nI_nlt (a := (a + (3 * k))) (b := a) (by omega) (by omega))) (fun _ => ?_)
          refine ex_iload dX9_lotsBy_89 rfl rfl ?_
          refine ex_aload_n dX9_lotsBy_91 rfl rfl ?_
          refine ex_getR (b := 66) dX9_lotsBy_92 rfl qp_8_40 rfl rfl ?_
          refine ex_iload_n dX9_lotsBy_95 rfl rfl ?_
          refine ex_iaload (k := s) (x := nI (S.2.1 s)) dX9_lotsBy_96 rfl rfl (rfl) (by omega) (by decide) ((hM.2.2.2.2.1 s (by omega)).2.1) ?_
          refine ex_iconst (x := 3) dX9_lotsBy_97 rfl rfl ?_
          refine ex_isub (z := nI (S.2.1 s) - 3) dX9_lotsBy_98 rfl (rfl) ?_
          refine ex_icmp_le (q := 105) (q2 := 102) dX9_lotsBy_99 rfl rfl (fun _ => ?_) (fun hh => absurd (c2.2) hh)
          refine ex_bipush (x := 40) dX9_lotsBy_105 rfl rfl ?_
          refine ex_iload_n dX9_lotsBy_107 rfl rfl ?_
          refine ex_imul (z := nI (40 * s)) dX9_lotsBy_108 rfl (pk_mul 40 s) ?_
          refine ex_iload dX9_lotsBy_109 rfl rfl ?_
          refine ex_iadd (z := nI ((40 * s) + (a + (3 * k)))) dX9_lotsBy_111 rfl (nI_add (40 * s) (a + (3 * k))) ?_
          refine ex_istore (ls' := [some (.ref 55), some (.int (nI s)), some (.int sort), some (.int (nI a)), some (.int (nI n)), some (.int c), some (.int (nI k)), some (.int (nI (a + (3 * k)))), some (.int (nI ((40 * s) + (a + (3 * k)))))]) dX9_lotsBy_112 rfl (Nat.le_of_ble_eq_true rfl) rfl rfl ?_
          refine ex_iload dX9_lotsBy_114 rfl rfl ?_
          refine ex_aload_n dX9_lotsBy_116 rfl rfl ?_
          refine ex_aload_n dX9_lotsBy_117 rfl rfl ?_
          refine ex_getR (b := 67) dX9_lotsBy_118 rfl qp_8_43 rfl rfl ?_
          refine ex_iload dX9_lotsBy_121 rfl rfl ?_
          refine ex_iaload (k := (40 * s) + (a + (3 * k))) (x := S.2.2 s (a + (3 * k))) dX9_lotsBy_123 rfl rfl (rfl) (by omega) (by decide) ((by have := (hM.2.2.2.2.1 s hs4).2.2 (a + 3 * k) (by omega); exact this)) ?_
          refine ex_aload_n dX9_lotsBy_124 rfl rfl ?_
          refine ex_getR (b := 67) dX9_lotsBy_125 rfl qp_8_43 rfl rfl ?_
          refine ex_iload dX9_lotsBy_128 rfl rfl ?_
          refine ex_iconst (x := 1) dX9_lotsBy_130 rfl rfl ?_
          refine ex_iadd (z := nI (((40 * s) + (a + (3 * k))) + 1)) dX9_lotsBy_131 rfl (nI_add ((40 * s) + (a + (3 * k))) 1) ?_
          refine ex_iaload (k := ((40 * s) + (a + (3 * k))) + 1) (x := S.2.2 s (a + 3 * k + 1)) dX9_lotsBy_132 rfl rfl (rfl) (by omega) (by decide) ((by have := (hM.2.2.2.2.1 s hs4).2.2 (a + 3 * k + 1) (by omega); exact this)) ?_
          refine ex_aload_n dX9_lotsBy_133 rfl rfl ?_
          refine ex_getR (b := 67) dX9_lotsBy_134 rfl qp_8_43 rfl rfl ?_
          refine ex_iload dX9_lotsBy_137 rfl rfl ?_
          refine ex_iconst (x := 2) dX9_lotsBy_139 rfl rfl ?_
          refine ex_iadd (z := nI (((40 * s) + (a + (3 * k))) + 2)) dX9_lotsBy_140 rfl (nI_add ((40 * s) + (a + (3 * k))) 2) ?_
          refine ex_iaload (k := ((40 * s) + (a + (3 * k))) + 2) (x := S.2.2 s (a + 3 * k + 2)) dX9_lotsBy_141 rfl rfl (rfl) (by omega) (by decide) ((by have := (hM.2.2.2.2.1 s hs4).2.2 (a + 3 * k + 2) (by omega); exact this)) ?_
          refine ex_callV (a := 55) (rest := [.int c]) dX9_lotsBy_142 rfl qp_8_323 rfl rfl rfl rfl rfl (Nat.le_of_ble_eq_true rfl) (hO) (Nat.le_of_ble_eq_true rfl) ?_
          show Ex qm_lay _ mX9_lotsBy 145 [some (.ref 55), some (.int (nI s)), some (.int sort), some (.int (nI a)), some (.int (nI n)), some (.int c), some (.int (nI k)), some (.int (nI (a + (3 * k)))), some (.int (nI ((40 * s) + (a + (3 * k)))))] [.int q, .int c] σ1 _ _
          refine ex_if_lt (q := 152) (q2 := 148) dX9_lotsBy_145 rfl rfl (fun hh => absurd hh (c7)) (fun _ => ?_)
          refine ex_iconst (x := 1) dX9_lotsBy_148 rfl rfl ?_
          refine ex_goto (q := 153) dX9_lotsBy_149 rfl ?_
          refine ex_iadd (z := c + 1) dX9_lotsBy_153 rfl (rfl) ?_
          refine ex_istore (ls' := [some (.ref 55), some (.int (nI s)), some (.int sort), some (.int (nI a)), some (.int (nI n)), some (.int (c + 1)), some (.int (nI k)), some (.int (nI (a + (3 * k)))), some (.int (nI ((40 * s) + (a + (3 * k)))))]) dX9_lotsBy_154 rfl (Nat.le_of_ble_eq_true rfl) rfl rfl ?_
          refine ex_iinc (y := nI (k + 1)) (ls' := [some (.ref 55), some (.int (nI s)), some (.int sort), some (.int (nI a)), some (.int (nI n)), some (.int (c + 1)), some (.int (nI (k + 1))), some (.int (nI (a + (3 * k)))), some (.int (nI ((40 * s) + (a + (3 * k)))))]) dX9_lotsBy_156 rfl rfl rfl (nI_add k 1) rfl ?_
          refine ex_goto (q := 64) dX9_lotsBy_159 rfl ?_
          rw [if_neg c7] at hE
          exact hE
    · have c2 : ¬ (nI p ≤ nI (S.2.1 s) - 3) := fun z => c1 ((gs_hr3 h40 _).mpr ⟨nI_pos (by omega), z⟩)
      refine ⟨.int (-12), _, hG, fun σ hC => ⟨σ, ?_, hC, sm.rf _ _ _ _ _⟩, fun σ hM => ⟨σ, ?_, hM, sm.rf _ _ _ _ _⟩⟩
      · refine ex_iload dX8_lotsBy_70 rfl rfl ?_
        refine ex_iload dX8_lotsBy_72 rfl rfl ?_
        refine ex_icmp_ge (q := 158) (q2 := 77) dX8_lotsBy_74 rfl rfl (fun hh => absurd hh (nI_ge (by omega) (by omega))) (fun _ => ?_)
        refine ex_aload_n dX8_lotsBy_77 rfl rfl ?_
        refine ex_getR (b := 40) dX8_lotsBy_78 rfl qp_7_36 rfl rfl ?_
        refine ex_iload_n dX8_lotsBy_81 rfl rfl ?_
        refine ex_iload dX8_lotsBy_82 rfl rfl ?_
        refine ex_iconst (x := 3) dX8_lotsBy_84 rfl rfl ?_
        refine ex_callV (a := 40) (rest := []) dX8_lotsBy_85 rfl qp_7_291 rfl rfl rfl rfl rfl (Nat.le_of_ble_eq_true rfl) (c_hasRange hS hC.2.2.2.2 (by omega) _ _) (Nat.le_of_ble_eq_true rfl) ?_
        show Ex qm_lay _ mX8_lotsBy 88 [some (.ref 54), some (.int (nI s)), some (.int sort), some (.int (nI a)), some (.int (nI n)), some (.int c), some (.int (nI p)), some (.int (nI k)), x] [.int (b2i (gs_hr (S.2.1 s) (nI p) 3))] σ _ _
        refine ex_if_ne (q := 94) (q2 := 91) dX8_lotsBy_88 rfl rfl (fun hh => absurd hh (fun zz => zz (b2i_0.mpr (by simpa using c1)))) (fun _ => ?_)
        refine ex_bipush (x := (-12)) dX8_lotsBy_91 rfl rfl ?_
        exact ex_iret dX8_lotsBy_93 rfl rfl rfl
      · refine ex_iload dX9_lotsBy_64 rfl rfl ?_
        refine ex_iload dX9_lotsBy_66 rfl rfl ?_
        refine ex_icmp_ge (q := 162) (q2 := 71) dX9_lotsBy_68 rfl rfl (fun hh => absurd hh (nI_ge (by omega) (by omega))) (fun _ => ?_)
        refine ex_iload_n dX9_lotsBy_71 rfl rfl ?_
        refine ex_iconst (x := 3) dX9_lotsBy_72 rfl rfl ?_
        refine ex_iload dX9_lotsBy_73 rfl rfl ?_
        refine ex_imul (z := nI (3 * k)) dX9_lotsBy_75 rfl (pk_mul 3 k) ?_
        refine ex_iadd (z := nI (a + (3 * k))) dX9_lotsBy_76 rfl (nI_add a (3 * k)) ?_
        refine ex_istore (ls' := [some (.ref 55), some (.int (nI s)), some (.int sort), some (.int (nI a)), some (.int (nI n)), some (.int c), some (.int (nI k)), some (.int (nI (a + (3 * k)))), z]) dX9_lotsBy_77 rfl (Nat.le_of_ble_eq_true rfl) rfl rfl ?_
        refine ex_iload_n dX9_lotsBy_79 rfl rfl ?_
        refine ex_if_lt (q := 102) (q2 := 83) dX9_lotsBy_80 rfl rfl (fun hh => absurd hh (nI_pos (by omega))) (fun _ => ?_)
        refine ex_iload dX9_lotsBy_83 rfl rfl ?_
        refine ex_iload_n dX9_lotsBy_85 rfl rfl ?_
        refine ex_icmp_lt (q := 102) (q2 := 89) dX9_lotsBy_86 rfl rfl (fun hh => absurd hh (nI_nlt (a := (a + (3 * k))) (b := a) (by omega) (by omega))) (fun _ => ?_)
        refine ex_iload dX9_lotsBy_89 rfl rfl ?_
        refine ex_aload_n dX9_lotsBy_91 rfl rfl ?_
        refine ex_getR (b := 66) dX9_lotsBy_92 rfl qp_8_40 rfl rfl ?_
        refine ex_iload_n dX9_lotsBy_95 rfl rfl ?_
        refine ex_iaload (k := s) (x := nI (S.2.1 s)) dX9_lotsBy_96 rfl rfl (rfl) (by omega) (by decide) ((hM.2.2.2.2.1 s (by omega)).2.1) ?_
        refine ex_iconst (x := 3) dX9_lotsBy_97 rfl rfl ?_
        refine ex_isub (z := nI (S.2.1 s) - 3) dX9_lotsBy_98 rfl (rfl) ?_
        refine ex_icmp_le (q := 105) (q2 := 102) dX9_lotsBy_99 rfl rfl (fun hh => absurd hh ((by rw [hp] at c2; exact c2))) (fun _ => ?_)
        refine ex_bipush (x := (-12)) dX9_lotsBy_102 rfl rfl ?_
        exact ex_iret dX9_lotsBy_104 rfl rfl rfl

set_option maxHeartbeats 2000000 in
theorem j_lotsBy {T : tn_T} {X : gx_T} {P : gt_T} {Im : gi_T} {S : gs_T} (hG : gg_ok (T, X, P, Im, S)) (s x a n : Int32) : J mX8_lotsBy mX9_lotsBy [.int s, .int x, .int a, .int n] (T, X, P, Im, S) := by
  have hT : tn_ok T := hG.1
  have hX : gx_ok X := hG.2.1
  have hP : gt_ok P := hG.2.2.1
  have hI : gi_ok T (gx_n X) Im := hG.2.2.2.1
  have hS : gs_ok S := hG.2.2.2.2.1
  have hw : tn_w T < gx_n X := hG.2.2.2.2.2
  have hL := hT.1
  have hw6 := hT.2.1
  have hu := tn_u_lt hT
  have hX6 := hX.2.1
  have hP6 := hP.1
  by_cases c1 : tn_in s 0 3 = true ∧ tn_in x 0 2 = true ∧ tn_in n 0 7 = true
  · obtain ⟨c1, c2, c3⟩ := c1
    obtain ⟨s, hs, rfl⟩ := tn_in_of (n := 3) (by decide) c1
    obtain ⟨q, hq, rfl⟩ := tn_in_of (n := 2) (by decide) c2
    obtain ⟨n, hn, rfl⟩ := tn_in_of (n := 7) (by decide) c3
    have hs4 : s < 4 := by omega
    have h40 := (hS s hs4).2
    by_cases c4 : S.1 s = -1
    · refine J.q hG (.int (-11)) (fun σ hC => ?_) (fun σ hM => ?_)
      · have h : TR σ 9 18 T := hC.1
        refine Ok.of (ls := [some (.ref 54), some (.int (nI s)), some (.int (nI q)), some (.int a), some (.int (nI n)), none, none, none, none]) (Nat.le_of_ble_eq_true rfl) rfl ?_
        refine ex_iload_n dX8_lotsBy_0 rfl rfl ?_
        refine ex_callS (rest := []) dX8_lotsBy_1 rfl qp_7_201 rfl rfl rfl (Nat.le_of_ble_eq_true rfl) (c_isSheet _ _) (Nat.le_of_ble_eq_true rfl) ?_
        show Ex qm_lay _ mX8_lotsBy 4 [some (.ref 54), some (.int (nI s)), some (.int (nI q)), some (.int a), some (.int (nI n)), none, none, none, none] [.int (b2i (tn_in (nI s) 0 3))] σ _ _
        refine ex_if_eq (q := 28) (q2 := 7) dX8_lotsBy_4 rfl rfl (fun hh => absurd hh (b2i_n0.mpr (c1))) (fun _ => ?_)
        refine ex_iload_n dX8_lotsBy_7 rfl rfl ?_
        refine ex_if_lt (q := 28) (q2 := 11) dX8_lotsBy_8 rfl rfl (fun hh => absurd hh (nI_pos (by omega))) (fun _ => ?_)
        refine ex_iload_n dX8_lotsBy_11 rfl rfl ?_
        refine ex_iconst (x := 2) dX8_lotsBy_12 rfl rfl ?_
        refine ex_icmp_gt (q := 28) (q2 := 16) dX8_lotsBy_13 rfl rfl (fun hh => absurd hh (nI_nlt (a := 2) (b := q) (by omega) (by omega))) (fun _ => ?_)
        refine ex_iload dX8_lotsBy_16 rfl rfl ?_
        refine ex_if_lt (q := 28) (q2 := 21) dX8_lotsBy_18 rfl rfl (fun hh => absurd hh (nI_pos (by omega))) (fun _ => ?_)
        refine ex_iload dX8_lotsBy_21 rfl rfl ?_
        refine ex_bipush (x := 7) dX8_lotsBy_23 rfl rfl ?_
        refine ex_icmp_le (q := 31) (q2 := 28) dX8_lotsBy_25 rfl rfl (fun _ => ?_) (fun hh => absurd (nI_le (a := n) (b := 7) (by omega) (by omega)) hh)
        refine ex_aload_n dX8_lotsBy_31 rfl rfl ?_
        refine ex_getR (b := 40) dX8_lotsBy_32 rfl qp_7_36 rfl rfl ?_
        refine ex_iload_n dX8_lotsBy_35 rfl rfl ?_
        refine ex_callV (a := 40) (rest := []) dX8_lotsBy_36 rfl qp_7_204 rfl rfl rfl rfl rfl (Nat.le_of_ble_eq_true rfl) (c_isMissing hS hC.2.2.2.2 (by omega)) (Nat.le_of_ble_eq_true rfl) ?_
        show Ex qm_lay _ mX8_lotsBy 39 [some (.ref 54), some (.int (nI s)), some (.int (nI q)), some (.int a), some (.int (nI n)), none, none, none, none] [.int (b2i (decide (S.1 s = -1)))] σ _ _
        refine ex_if_eq (q := 45) (q2 := 42) dX8_lotsBy_39 rfl rfl (fun hh => absurd hh (b2i_n0.mpr (decide_eq_true c4))) (fun _ => ?_)
        refine ex_bipush (x := (-11)) dX8_lotsBy_42 rfl rfl ?_
        exact ex_iret dX8_lotsBy_44 rfl rfl rfl
      · have h : MR σ T := hM.1
        refine Ok.of (ls := [some (.ref 55), some (.int (nI s)), some (.int (nI q)), some (.int a), some (.int (nI n)), none, none, none, none]) (Nat.le_of_ble_eq_true rfl) rfl ?_
        refine ex_iload_n dX9_lotsBy_0 rfl rfl ?_
        refine ex_iconst (x := 0) dX9_lotsBy_1 rfl rfl ?_
        refine ex_iconst (x := 3) dX9_lotsBy_2 rfl rfl ?_
        refine ex_callS (rest := []) dX9_lotsBy_3 rfl qp_8_81 rfl rfl rfl (Nat.le_of_ble_eq_true rfl) (k_in _ _ _ _) (Nat.le_of_ble_eq_true rfl) ?_
        show Ex qm_lay _ mX9_lotsBy 6 [some (.ref 55), some (.int (nI s)), some (.int (nI q)), some (.int a), some (.int (nI n)), none, none, none, none] [.int (b2i (tn_in (nI s) 0 3))] σ _ _
        refine ex_if_eq (q := 29) (q2 := 9) dX9_lotsBy_6 rfl rfl (fun hh => absurd hh (b2i_n0.mpr (c1))) (fun _ => ?_)
        refine ex_iload_n dX9_lotsBy_9 rfl rfl ?_
        refine ex_iconst (x := 0) dX9_lotsBy_10 rfl rfl ?_
        refine ex_iconst (x := 2) dX9_lotsBy_11 rfl rfl ?_
        refine ex_callS (rest := []) dX9_lotsBy_12 rfl qp_8_81 rfl rfl rfl (Nat.le_of_ble_eq_true rfl) (k_in _ _ _ _) (Nat.le_of_ble_eq_true rfl) ?_
        show Ex qm_lay _ mX9_lotsBy 15 [some (.ref 55), some (.int (nI s)), some (.int (nI q)), some (.int a), some (.int (nI n)), none, none, none, none] [.int (b2i (tn_in (nI q) 0 2))] σ _ _
        refine ex_if_eq (q := 29) (q2 := 18) dX9_lotsBy_15 rfl rfl (fun hh => absurd hh (b2i_n0.mpr (c2))) (fun _ => ?_)
        refine ex_iload dX9_lotsBy_18 rfl rfl ?_
        refine ex_iconst (x := 0) dX9_lotsBy_20 rfl rfl ?_
        refine ex_bipush (x := 7) dX9_lotsBy_21 rfl rfl ?_
        refine ex_callS (rest := []) dX9_lotsBy_23 rfl qp_8_81 rfl rfl rfl (Nat.le_of_ble_eq_true rfl) (k_in _ _ _ _) (Nat.le_of_ble_eq_true rfl) ?_
        show Ex qm_lay _ mX9_lotsBy 26 [some (.ref 55), some (.int (nI s)), some (.int (nI q)), some (.int a), some (.int (nI n)), none, none, none, none] [.int (b2i (tn_in (nI n) 0 7))] σ _ _
        refine ex_if_ne (q := 32) (q2 := 29) dX9_lotsBy_26 rfl rfl (fun _ => ?_) (fun hh => absurd (b2i_n0.mpr (c3)) hh)
        refine ex_aload_n dX9_lotsBy_32 rfl rfl ?_
        refine ex_getR (b := 65) dX9_lotsBy_33 rfl qp_8_37 rfl rfl ?_
        refine ex_iload_n dX9_lotsBy_36 rfl rfl ?_
        refine ex_iaload (k := s) (x := S.1 s) dX9_lotsBy_37 rfl rfl (rfl) (by omega) (by decide) ((hM.2.2.2.2.1 s (by omega)).1) ?_
        refine ex_iconst (x := (-1)) dX9_lotsBy_38 rfl rfl ?_
        refine ex_icmp_ne (q := 45) (q2 := 42) dX9_lotsBy_39 rfl rfl (fun hh => absurd hh (fun zz => zz c4)) (fun _ => ?_)
        refine ex_bipush (x := (-11)) dX9_lotsBy_42 rfl rfl ?_
        exact ex_iret dX9_lotsBy_44 rfl rfl rfl
    · by_cases c5 : S.1 s = nI q
      · by_cases c6 : n = 0
        · subst c6
          refine J.q hG (.int 0) (fun σ hC => ?_) (fun σ hM => ?_)
          · have h : TR σ 9 18 T := hC.1
            refine Ok.of (ls := [some (.ref 54), some (.int (nI s)), some (.int (nI q)), some (.int a), some (.int 0), none, none, none, none]) (Nat.le_of_ble_eq_true rfl) rfl ?_
            refine ex_iload_n dX8_lotsBy_0 rfl rfl ?_
            refine ex_callS (rest := []) dX8_lotsBy_1 rfl qp_7_201 rfl rfl rfl (Nat.le_of_ble_eq_true rfl) (c_isSheet _ _) (Nat.le_of_ble_eq_true rfl) ?_
            show Ex qm_lay _ mX8_lotsBy 4 [some (.ref 54), some (.int (nI s)), some (.int (nI q)), some (.int a), some (.int 0), none, none, none, none] [.int (b2i (tn_in (nI s) 0 3))] σ _ _
            refine ex_if_eq (q := 28) (q2 := 7) dX8_lotsBy_4 rfl rfl (fun hh => absurd hh (b2i_n0.mpr (c1))) (fun _ => ?_)
            refine ex_iload_n dX8_lotsBy_7 rfl rfl ?_
            refine ex_if_lt (q := 28) (q2 := 11) dX8_lotsBy_8 rfl rfl (fun hh => absurd hh (nI_pos (by omega))) (fun _ => ?_)
            refine ex_iload_n dX8_lotsBy_11 rfl rfl ?_
            refine ex_iconst (x := 2) dX8_lotsBy_12 rfl rfl ?_
            refine ex_icmp_gt (q := 28) (q2 := 16) dX8_lotsBy_13 rfl rfl (fun hh => absurd hh (nI_nlt (a := 2) (b := q) (by omega) (by omega))) (fun _ => ?_)
            refine ex_iload dX8_lotsBy_16 rfl rfl ?_
            refine ex_if_lt (q := 28) (q2 := 21) dX8_lotsBy_18 rfl rfl (fun hh => absurd hh (by decide)) (fun _ => ?_)
            refine ex_iload dX8_lotsBy_21 rfl rfl ?_
            refine ex_bipush (x := 7) dX8_lotsBy_23 rfl rfl ?_
            refine ex_icmp_le (q := 31) (q2 := 28) dX8_lotsBy_25 rfl rfl (fun _ => ?_) (fun hh => absurd (by decide) hh)
            refine ex_aload_n dX8_lotsBy_31 rfl rfl ?_
            refine ex_getR (b := 40) dX8_lotsBy_32 rfl qp_7_36 rfl rfl ?_
            refine ex_iload_n dX8_lotsBy_35 rfl rfl ?_
            refine ex_callV (a := 40) (rest := []) dX8_lotsBy_36 rfl qp_7_204 rfl rfl rfl rfl rfl (Nat.le_of_ble_eq_true rfl) (c_isMissing hS hC.2.2.2.2 (by omega)) (Nat.le_of_ble_eq_true rfl) ?_
            show Ex qm_lay _ mX8_lotsBy 39 [some (.ref 54), some (.int (nI s)), some (.int (nI q)), some (.int a), some (.int 0), none, none, none, none] [.int (b2i (decide (S.1 s = -1)))] σ _ _
            refine ex_if_eq (q := 45) (q2 := 42) dX8_lotsBy_39 rfl rfl (fun _ => ?_) (fun hh => absurd (b2i_0.mpr (decide_eq_false c4)) hh)
            refine ex_aload_n dX8_lotsBy_45 rfl rfl ?_
            refine ex_getR (b := 40) dX8_lotsBy_46 rfl qp_7_36 rfl rfl ?_
            refine ex_getR (b := 43) dX8_lotsBy_49 rfl qp_7_288 rfl rfl ?_
            refine ex_iload_n dX8_lotsBy_52 rfl rfl ?_
            refine ex_iaload (k := s) (x := S.1 s) dX8_lotsBy_53 rfl rfl (rfl) (by omega) (by decide) ((hC.2.2.2.2 s (by omega)).1) ?_
            refine ex_iload_n dX8_lotsBy_54 rfl rfl ?_
            refine ex_icmp_eq (q := 61) (q2 := 58) dX8_lotsBy_55 rfl rfl (fun _ => ?_) (fun hh => absurd (c5) hh)
            refine ex_iconst (x := 0) dX8_lotsBy_61 rfl rfl ?_
            refine ex_istore (ls' := [some (.ref 54), some (.int (nI s)), some (.int (nI q)), some (.int a), some (.int 0), some (.int 0), none, none, none]) dX8_lotsBy_62 rfl (Nat.le_of_ble_eq_true rfl) rfl rfl ?_
            refine ex_iload_n dX8_lotsBy_64 rfl rfl ?_
            refine ex_istore (ls' := [some (.ref 54), some (.int (nI s)), some (.int (nI q)), some (.int a), some (.int 0), some (.int 0), some (.int a), none, none]) dX8_lotsBy_65 rfl (Nat.le_of_ble_eq_true rfl) rfl rfl ?_
            refine ex_iconst (x := 0) dX8_lotsBy_67 rfl rfl ?_
            refine ex_istore (ls' := [some (.ref 54), some (.int (nI s)), some (.int (nI q)), some (.int a), some (.int 0), some (.int 0), some (.int a), some (.int 0), none]) dX8_lotsBy_68 rfl (Nat.le_of_ble_eq_true rfl) rfl rfl ?_
            refine ex_iload dX8_lotsBy_70 rfl rfl ?_
            refine ex_iload dX8_lotsBy_72 rfl rfl ?_
            refine ex_icmp_ge (q := 158) (q2 := 77) dX8_lotsBy_74 rfl rfl (fun _ => ?_) (fun hh => absurd (by decide) hh)
            refine ex_iload dX8_lotsBy_158 rfl rfl ?_
            exact ex_iret dX8_lotsBy_160 rfl rfl rfl
          · have h : MR σ T := hM.1
            refine Ok.of (ls := [some (.ref 55), some (.int (nI s)), some (.int (nI q)), some (.int a), some (.int 0), none, none, none, none]) (Nat.le_of_ble_eq_true rfl) rfl ?_
            refine ex_iload_n dX9_lotsBy_0 rfl rfl ?_
            refine ex_iconst (x := 0) dX9_lotsBy_1 rfl rfl ?_
            refine ex_iconst (x := 3) dX9_lotsBy_2 rfl rfl ?_
            refine ex_callS (rest := []) dX9_lotsBy_3 rfl qp_8_81 rfl rfl rfl (Nat.le_of_ble_eq_true rfl) (k_in _ _ _ _) (Nat.le_of_ble_eq_true rfl) ?_
            show Ex qm_lay _ mX9_lotsBy 6 [some (.ref 55), some (.int (nI s)), some (.int (nI q)), some (.int a), some (.int 0), none, none, none, none] [.int (b2i (tn_in (nI s) 0 3))] σ _ _
            refine ex_if_eq (q := 29) (q2 := 9) dX9_lotsBy_6 rfl rfl (fun hh => absurd hh (b2i_n0.mpr (c1))) (fun _ => ?_)
            refine ex_iload_n dX9_lotsBy_9 rfl rfl ?_
            refine ex_iconst (x := 0) dX9_lotsBy_10 rfl rfl ?_
            refine ex_iconst (x := 2) dX9_lotsBy_11 rfl rfl ?_
            refine ex_callS (rest := []) dX9_lotsBy_12 rfl qp_8_81 rfl rfl rfl (Nat.le_of_ble_eq_true rfl) (k_in _ _ _ _) (Nat.le_of_ble_eq_true rfl) ?_
            show Ex qm_lay _ mX9_lotsBy 15 [some (.ref 55), some (.int (nI s)), some (.int (nI q)), some (.int a), some (.int 0), none, none, none, none] [.int (b2i (tn_in (nI q) 0 2))] σ _ _
            refine ex_if_eq (q := 29) (q2 := 18) dX9_lotsBy_15 rfl rfl (fun hh => absurd hh (b2i_n0.mpr (c2))) (fun _ => ?_)
            refine ex_iload dX9_lotsBy_18 rfl rfl ?_
            refine ex_iconst (x := 0) dX9_lotsBy_20 rfl rfl ?_
            refine ex_bipush (x := 7) dX9_lotsBy_21 rfl rfl ?_
            refine ex_callS (rest := []) dX9_lotsBy_23 rfl qp_8_81 rfl rfl rfl (Nat.le_of_ble_eq_true rfl) (k_in _ _ _ _) (Nat.le_of_ble_eq_true rfl) ?_
            show Ex qm_lay _ mX9_lotsBy 26 [some (.ref 55), some (.int (nI s)), some (.int (nI q)), some (.int a), some (.int 0), none, none, none, none] [.int (b2i (tn_in 0 0 7))] σ _ _
            refine ex_if_ne (q := 32) (q2 := 29) dX9_lotsBy_26 rfl rfl (fun _ => ?_) (fun hh => absurd (b2i_n0.mpr (rfl)) hh)
            refine ex_aload_n dX9_lotsBy_32 rfl rfl ?_
            refine ex_getR (b := 65) dX9_lotsBy_33 rfl qp_8_37 rfl rfl ?_
            refine ex_iload_n dX9_lotsBy_36 rfl rfl ?_
            refine ex_iaload (k := s) (x := S.1 s) dX9_lotsBy_37 rfl rfl (rfl) (by omega) (by decide) ((hM.2.2.2.2.1 s (by omega)).1) ?_
            refine ex_iconst (x := (-1)) dX9_lotsBy_38 rfl rfl ?_
            refine ex_icmp_ne (q := 45) (q2 := 42) dX9_lotsBy_39 rfl rfl (fun _ => ?_) (fun hh => absurd (c4) hh)
            refine ex_aload_n dX9_lotsBy_45 rfl rfl ?_
            refine ex_getR (b := 65) dX9_lotsBy_46 rfl qp_8_37 rfl rfl ?_
            refine ex_iload_n dX9_lotsBy_49 rfl rfl ?_
            refine ex_iaload (k := s) (x := S.1 s) dX9_lotsBy_50 rfl rfl (rfl) (by omega) (by decide) ((hM.2.2.2.2.1 s (by omega)).1) ?_
            refine ex_iload_n dX9_lotsBy_51 rfl rfl ?_
            refine ex_icmp_eq (q := 58) (q2 := 55) dX9_lotsBy_52 rfl rfl (fun _ => ?_) (fun hh => absurd (c5) hh)
            refine ex_iconst (x := 0) dX9_lotsBy_58 rfl rfl ?_
            refine ex_istore (ls' := [some (.ref 55), some (.int (nI s)), some (.int (nI q)), some (.int a), some (.int 0), some (.int 0), none, none, none]) dX9_lotsBy_59 rfl (Nat.le_of_ble_eq_true rfl) rfl rfl ?_
            refine ex_iconst (x := 0) dX9_lotsBy_61 rfl rfl ?_
            refine ex_istore (ls' := [some (.ref 55), some (.int (nI s)), some (.int (nI q)), some (.int a), some (.int 0), some (.int 0), some (.int 0), none, none]) dX9_lotsBy_62 rfl (Nat.le_of_ble_eq_true rfl) rfl rfl ?_
            refine ex_iload dX9_lotsBy_64 rfl rfl ?_
            refine ex_iload dX9_lotsBy_66 rfl rfl ?_
            refine ex_icmp_ge (q := 162) (q2 := 71) dX9_lotsBy_68 rfl rfl (fun _ => ?_) (fun hh => absurd (by decide) hh)
            refine ex_iload dX9_lotsBy_162 rfl rfl ?_
            exact ex_iret dX9_lotsBy_164 rfl rfl rfl
        · by_cases c7 : gs_hr (S.2.1 s) a 3 = true
          · obtain ⟨a, m, h1, rfl, e3⟩ := gs_hr_of (by omega) c7 (by decide)
            obtain ⟨v, G', hG2, hC2, hM2⟩ := l_lotsBy (s := s) (a := a) (n := n) hs4 (by omega) hn (nI q) n 0 a 0 none none none T (by omega) (by omega) hG rfl
            refine ⟨v, G', hG2, fun σ hC => ?_, fun σ hM => ?_⟩
            · have h : TR σ 9 18 T := hC.1
              obtain ⟨σ', hE, hC3, hs3⟩ := hC2 σ hC
              refine ⟨σ', ?_, hC3, hs3⟩
              refine Ok.of (ls := [some (.ref 54), some (.int (nI s)), some (.int (nI q)), some (.int (nI a)), some (.int (nI n)), none, none, none, none]) (Nat.le_of_ble_eq_true rfl) rfl ?_
              refine ex_iload_n dX8_lotsBy_0 rfl rfl ?_
              refine ex_callS (rest := []) dX8_lotsBy_1 rfl qp_7_201 rfl rfl rfl (Nat.le_of_ble_eq_true rfl) (c_isSheet _ _) (Nat.le_of_ble_eq_true rfl) ?_
              show Ex qm_lay _ mX8_lotsBy 4 [some (.ref 54), some (.int (nI s)), some (.int (nI q)), some (.int (nI a)), some (.int (nI n)), none, none, none, none] [.int (b2i (tn_in (nI s) 0 3))] σ _ _
              refine ex_if_eq (q := 28) (q2 := 7) dX8_lotsBy_4 rfl rfl (fun hh => absurd hh (b2i_n0.mpr (c1))) (fun _ => ?_)
              refine ex_iload_n dX8_lotsBy_7 rfl rfl ?_
              refine ex_if_lt (q := 28) (q2 := 11) dX8_lotsBy_8 rfl rfl (fun hh => absurd hh (nI_pos (by omega))) (fun _ => ?_)
              refine ex_iload_n dX8_lotsBy_11 rfl rfl ?_
              refine ex_iconst (x := 2) dX8_lotsBy_12 rfl rfl ?_
              refine ex_icmp_gt (q := 28) (q2 := 16) dX8_lotsBy_13 rfl rfl (fun hh => absurd hh (nI_nlt (a := 2) (b := q) (by omega) (by omega))) (fun _ => ?_)
              refine ex_iload dX8_lotsBy_16 rfl rfl ?_
              refine ex_if_lt (q := 28) (q2 := 21) dX8_lotsBy_18 rfl rfl (fun hh => absurd hh (nI_pos (by omega))) (fun _ => ?_)
              refine ex_iload dX8_lotsBy_21 rfl rfl ?_
              refine ex_bipush (x := 7) dX8_lotsBy_23 rfl rfl ?_
              refine ex_icmp_le (q := 31) (q2 := 28) dX8_lotsBy_25 rfl rfl (fun _ => ?_) (fun hh => absurd (nI_le (a := n) (b := 7) (by omega) (by omega)) hh)
              refine ex_aload_n dX8_lotsBy_31 rfl rfl ?_
              refine ex_getR (b := 40) dX8_lotsBy_32 rfl qp_7_36 rfl rfl ?_
              refine ex_iload_n dX8_lotsBy_35 rfl rfl ?_
              refine ex_callV (a := 40) (rest := []) dX8_lotsBy_36 rfl qp_7_204 rfl rfl rfl rfl rfl (Nat.le_of_ble_eq_true rfl) (c_isMissing hS hC.2.2.2.2 (by omega)) (Nat.le_of_ble_eq_true rfl) ?_
              show Ex qm_lay _ mX8_lotsBy 39 [some (.ref 54), some (.int (nI s)), some (.int (nI q)), some (.int (nI a)), some (.int (nI n)), none, none, none, none] [.int (b2i (decide (S.1 s = -1)))] σ _ _
              refine ex_if_eq (q := 45) (q2 := 42) dX8_lotsBy_39 rfl rfl (fun _ => ?_) (fun hh => absurd (b2i_0.mpr (decide_eq_false c4)) hh)
              refine ex_aload_n dX8_lotsBy_45 rfl rfl ?_
              refine ex_getR (b := 40) dX8_lotsBy_46 rfl qp_7_36 rfl rfl ?_
              refine ex_getR (b := 43) dX8_lotsBy_49 rfl qp_7_288 rfl rfl ?_
              refine ex_iload_n dX8_lotsBy_52 rfl rfl ?_
              refine ex_iaload (k := s) (x := S.1 s) dX8_lotsBy_53 rfl rfl (rfl) (by omega) (by decide) ((hC.2.2.2.2 s (by omega)).1) ?_
              refine ex_iload_n dX8_lotsBy_54 rfl rfl ?_
              refine ex_icmp_eq (q := 61) (q2 := 58) dX8_lotsBy_55 rfl rfl (fun _ => ?_) (fun hh => absurd (c5) hh)
              refine ex_iconst (x := 0) dX8_lotsBy_61 rfl rfl ?_
              refine ex_istore (ls' := [some (.ref 54), some (.int (nI s)), some (.int (nI q)), some (.int (nI a)), some (.int (nI n)), some (.int 0), none, none, none]) dX8_lotsBy_62 rfl (Nat.le_of_ble_eq_true rfl) rfl rfl ?_
              refine ex_iload_n dX8_lotsBy_64 rfl rfl ?_
              refine ex_istore (ls' := [some (.ref 54), some (.int (nI s)), some (.int (nI q)), some (.int (nI a)), some (.int (nI n)), some (.int 0), some (.int (nI a)), none, none]) dX8_lotsBy_65 rfl (Nat.le_of_ble_eq_true rfl) rfl rfl ?_
              refine ex_iconst (x := 0) dX8_lotsBy_67 rfl rfl ?_
              refine ex_istore (ls' := [some (.ref 54), some (.int (nI s)), some (.int (nI q)), some (.int (nI a)), some (.int (nI n)), some (.int 0), some (.int (nI a)), some (.int 0), none]) dX8_lotsBy_68 rfl (Nat.le_of_ble_eq_true rfl) rfl rfl ?_
              exact hE
            · have h : MR σ T := hM.1
              obtain ⟨σ', hE, hM3, hs3⟩ := hM2 σ hM
              refine ⟨σ', ?_, hM3, hs3⟩
              refine Ok.of (ls := [some (.ref 55), some (.int (nI s)), some (.int (nI q)), some (.int (nI a)), some (.int (nI n)), none, none, none, none]) (Nat.le_of_ble_eq_true rfl) rfl ?_
              refine ex_iload_n dX9_lotsBy_0 rfl rfl ?_
              refine ex_iconst (x := 0) dX9_lotsBy_1 rfl rfl ?_
              refine ex_iconst (x := 3) dX9_lotsBy_2 rfl rfl ?_
              refine ex_callS (rest := []) dX9_lotsBy_3 rfl qp_8_81 rfl rfl rfl (Nat.le_of_ble_eq_true rfl) (k_in _ _ _ _) (Nat.le_of_ble_eq_true rfl) ?_
              show Ex qm_lay _ mX9_lotsBy 6 [some (.ref 55), some (.int (nI s)), some (.int (nI q)), some (.int (nI a)), some (.int (nI n)), none, none, none, none] [.int (b2i (tn_in (nI s) 0 3))] σ _ _
              refine ex_if_eq (q := 29) (q2 := 9) dX9_lotsBy_6 rfl rfl (fun hh => absurd hh (b2i_n0.mpr (c1))) (fun _ => ?_)
              refine ex_iload_n dX9_lotsBy_9 rfl rfl ?_
              refine ex_iconst (x := 0) dX9_lotsBy_10 rfl rfl ?_
              refine ex_iconst (x := 2) dX9_lotsBy_11 rfl rfl ?_
              refine ex_callS (rest := []) dX9_lotsBy_12 rfl qp_8_81 rfl rfl rfl (Nat.le_of_ble_eq_true rfl) (k_in _ _ _ _) (Nat.le_of_ble_eq_true rfl) ?_
              show Ex qm_lay _ mX9_lotsBy 15 [some (.ref 55), some (.int (nI s)), some (.int (nI q)), some (.int (nI a)), some (.int (nI n)), none, none, none, none] [.int (b2i (tn_in (nI q) 0 2))] σ _ _
              refine ex_if_eq (q := 29) (q2 := 18) dX9_lotsBy_15 rfl rfl (fun hh => absurd hh (b2i_n0.mpr (c2))) (fun _ => ?_)
              refine ex_iload dX9_lotsBy_18 rfl rfl ?_
              refine ex_iconst (x := 0) dX9_lotsBy_20 rfl rfl ?_
              refine ex_bipush (x := 7) dX9_lotsBy_21 rfl rfl ?_
              refine ex_callS (rest := []) dX9_lotsBy_23 rfl qp_8_81 rfl rfl rfl (Nat.le_of_ble_eq_true rfl) (k_in _ _ _ _) (Nat.le_of_ble_eq_true rfl) ?_
              show Ex qm_lay _ mX9_lotsBy 26 [some (.ref 55), some (.int (nI s)), some (.int (nI q)), some (.int (nI a)), some (.int (nI n)), none, none, none, none] [.int (b2i (tn_in (nI n) 0 7))] σ _ _
              refine ex_if_ne (q := 32) (q2 := 29) dX9_lotsBy_26 rfl rfl (fun _ => ?_) (fun hh => absurd (b2i_n0.mpr (c3)) hh)
              refine ex_aload_n dX9_lotsBy_32 rfl rfl ?_
              refine ex_getR (b := 65) dX9_lotsBy_33 rfl qp_8_37 rfl rfl ?_
              refine ex_iload_n dX9_lotsBy_36 rfl rfl ?_
              refine ex_iaload (k := s) (x := S.1 s) dX9_lotsBy_37 rfl rfl (rfl) (by omega) (by decide) ((hM.2.2.2.2.1 s (by omega)).1) ?_
              refine ex_iconst (x := (-1)) dX9_lotsBy_38 rfl rfl ?_
              refine ex_icmp_ne (q := 45) (q2 := 42) dX9_lotsBy_39 rfl rfl (fun _ => ?_) (fun hh => absurd (c4) hh)
              refine ex_aload_n dX9_lotsBy_45 rfl rfl ?_
              refine ex_getR (b := 65) dX9_lotsBy_46 rfl qp_8_37 rfl rfl ?_
              refine ex_iload_n dX9_lotsBy_49 rfl rfl ?_
              refine ex_iaload (k := s) (x := S.1 s) dX9_lotsBy_50 rfl rfl (rfl) (by omega) (by decide) ((hM.2.2.2.2.1 s (by omega)).1) ?_
              refine ex_iload_n dX9_lotsBy_51 rfl rfl ?_
              refine ex_icmp_eq (q := 58) (q2 := 55) dX9_lotsBy_52 rfl rfl (fun _ => ?_) (fun hh => absurd (c5) hh)
              refine ex_iconst (x := 0) dX9_lotsBy_58 rfl rfl ?_
              refine ex_istore (ls' := [some (.ref 55), some (.int (nI s)), some (.int (nI q)), some (.int (nI a)), some (.int (nI n)), some (.int 0), none, none, none]) dX9_lotsBy_59 rfl (Nat.le_of_ble_eq_true rfl) rfl rfl ?_
              refine ex_iconst (x := 0) dX9_lotsBy_61 rfl rfl ?_
              refine ex_istore (ls' := [some (.ref 55), some (.int (nI s)), some (.int (nI q)), some (.int (nI a)), some (.int (nI n)), some (.int 0), some (.int 0), none, none]) dX9_lotsBy_62 rfl (Nat.le_of_ble_eq_true rfl) rfl rfl ?_
              exact hE
          · have c8 : ¬ (¬ a < 0 ∧ a ≤ nI (S.2.1 s) - 3) := fun z => c7 ((gs_hr3 h40 _).mpr z)
            refine J.q hG (.int (-12)) (fun σ hC => ?_) (fun σ hM => ?_)
            · have h : TR σ 9 18 T := hC.1
              refine Ok.of (ls := [some (.ref 54), some (.int (nI s)), some (.int (nI q)), some (.int a), some (.int (nI n)), none, none, none, none]) (Nat.le_of_ble_eq_true rfl) rfl ?_
              refine ex_iload_n dX8_lotsBy_0 rfl rfl ?_
              refine ex_callS (rest := []) dX8_lotsBy_1 rfl qp_7_201 rfl rfl rfl (Nat.le_of_ble_eq_true rfl) (c_isSheet _ _) (Nat.le_of_ble_eq_true rfl) ?_
              show Ex qm_lay _ mX8_lotsBy 4 [some (.ref 54), some (.int (nI s)), some (.int (nI q)), some (.int a), some (.int (nI n)), none, none, none, none] [.int (b2i (tn_in (nI s) 0 3))] σ _ _
              refine ex_if_eq (q := 28) (q2 := 7) dX8_lotsBy_4 rfl rfl (fun hh => absurd hh (b2i_n0.mpr (c1))) (fun _ => ?_)
              refine ex_iload_n dX8_lotsBy_7 rfl rfl ?_
              refine ex_if_lt (q := 28) (q2 := 11) dX8_lotsBy_8 rfl rfl (fun hh => absurd hh (nI_pos (by omega))) (fun _ => ?_)
              refine ex_iload_n dX8_lotsBy_11 rfl rfl ?_
              refine ex_iconst (x := 2) dX8_lotsBy_12 rfl rfl ?_
              refine ex_icmp_gt (q := 28) (q2 := 16) dX8_lotsBy_13 rfl rfl (fun hh => absurd hh (nI_nlt (a := 2) (b := q) (by omega) (by omega))) (fun _ => ?_)
              refine ex_iload dX8_lotsBy_16 rfl rfl ?_
              refine ex_if_lt (q := 28) (q2 := 21) dX8_lotsBy_18 rfl rfl (fun hh => absurd hh (nI_pos (by omega))) (fun _ => ?_)
              refine ex_iload dX8_lotsBy_21 rfl rfl ?_
              refine ex_bipush (x := 7) dX8_lotsBy_23 rfl rfl ?_
              refine ex_icmp_le (q := 31) (q2 := 28) dX8_lotsBy_25 rfl rfl (fun _ => ?_) (fun hh => absurd (nI_le (a := n) (b := 7) (by omega) (by omega)) hh)
              refine ex_aload_n dX8_lotsBy_31 rfl rfl ?_
              refine ex_getR (b := 40) dX8_lotsBy_32 rfl qp_7_36 rfl rfl ?_
              refine ex_iload_n dX8_lotsBy_35 rfl rfl ?_
              refine ex_callV (a := 40) (rest := []) dX8_lotsBy_36 rfl qp_7_204 rfl rfl rfl rfl rfl (Nat.le_of_ble_eq_true rfl) (c_isMissing hS hC.2.2.2.2 (by omega)) (Nat.le_of_ble_eq_true rfl) ?_
              show Ex qm_lay _ mX8_lotsBy 39 [some (.ref 54), some (.int (nI s)), some (.int (nI q)), some (.int a), some (.int (nI n)), none, none, none, none] [.int (b2i (decide (S.1 s = -1)))] σ _ _
              refine ex_if_eq (q := 45) (q2 := 42) dX8_lotsBy_39 rfl rfl (fun _ => ?_) (fun hh => absurd (b2i_0.mpr (decide_eq_false c4)) hh)
              refine ex_aload_n dX8_lotsBy_45 rfl rfl ?_
              refine ex_getR (b := 40) dX8_lotsBy_46 rfl qp_7_36 rfl rfl ?_
              refine ex_getR (b := 43) dX8_lotsBy_49 rfl qp_7_288 rfl rfl ?_
              refine ex_iload_n dX8_lotsBy_52 rfl rfl ?_
              refine ex_iaload (k := s) (x := S.1 s) dX8_lotsBy_53 rfl rfl (rfl) (by omega) (by decide) ((hC.2.2.2.2 s (by omega)).1) ?_
              refine ex_iload_n dX8_lotsBy_54 rfl rfl ?_
              refine ex_icmp_eq (q := 61) (q2 := 58) dX8_lotsBy_55 rfl rfl (fun _ => ?_) (fun hh => absurd (c5) hh)
              refine ex_iconst (x := 0) dX8_lotsBy_61 rfl rfl ?_
              refine ex_istore (ls' := [some (.ref 54), some (.int (nI s)), some (.int (nI q)), some (.int a), some (.int (nI n)), some (.int 0), none, none, none]) dX8_lotsBy_62 rfl (Nat.le_of_ble_eq_true rfl) rfl rfl ?_
              refine ex_iload_n dX8_lotsBy_64 rfl rfl ?_
              refine ex_istore (ls' := [some (.ref 54), some (.int (nI s)), some (.int (nI q)), some (.int a), some (.int (nI n)), some (.int 0), some (.int a), none, none]) dX8_lotsBy_65 rfl (Nat.le_of_ble_eq_true rfl) rfl rfl ?_
              refine ex_iconst (x := 0) dX8_lotsBy_67 rfl rfl ?_
              refine ex_istore (ls' := [some (.ref 54), some (.int (nI s)), some (.int (nI q)), some (.int a), some (.int (nI n)), some (.int 0), some (.int a), some (.int 0), none]) dX8_lotsBy_68 rfl (Nat.le_of_ble_eq_true rfl) rfl rfl ?_
              refine ex_iload dX8_lotsBy_70 rfl rfl ?_
              refine ex_iload dX8_lotsBy_72 rfl rfl ?_
              refine ex_icmp_ge (q := 158) (q2 := 77) dX8_lotsBy_74 rfl rfl (fun hh => absurd hh (nI_ge (a := 0) (b := n) (by omega) (by omega))) (fun _ => ?_)
              refine ex_aload_n dX8_lotsBy_77 rfl rfl ?_
              refine ex_getR (b := 40) dX8_lotsBy_78 rfl qp_7_36 rfl rfl ?_
              refine ex_iload_n dX8_lotsBy_81 rfl rfl ?_
              refine ex_iload dX8_lotsBy_82 rfl rfl ?_
              refine ex_iconst (x := 3) dX8_lotsBy_84 rfl rfl ?_
              refine ex_callV (a := 40) (rest := []) dX8_lotsBy_85 rfl qp_7_291 rfl rfl rfl rfl rfl (Nat.le_of_ble_eq_true rfl) (c_hasRange hS hC.2.2.2.2 (by omega) _ _) (Nat.le_of_ble_eq_true rfl) ?_
              show Ex qm_lay _ mX8_lotsBy 88 [some (.ref 54), some (.int (nI s)), some (.int (nI q)), some (.int a), some (.int (nI n)), some (.int 0), some (.int a), some (.int 0), none] [.int (b2i (gs_hr (S.2.1 s) a 3))] σ _ _
              refine ex_if_ne (q := 94) (q2 := 91) dX8_lotsBy_88 rfl rfl (fun hh => absurd hh (fun zz => zz (b2i_0.mpr (by simpa using c7)))) (fun _ => ?_)
              refine ex_bipush (x := (-12)) dX8_lotsBy_91 rfl rfl ?_
              exact ex_iret dX8_lotsBy_93 rfl rfl rfl
            · have h : MR σ T := hM.1
              refine Ok.of (ls := [some (.ref 55), some (.int (nI s)), some (.int (nI q)), some (.int a), some (.int (nI n)), none, none, none, none]) (Nat.le_of_ble_eq_true rfl) rfl ?_
              refine ex_iload_n dX9_lotsBy_0 rfl rfl ?_
              refine ex_iconst (x := 0) dX9_lotsBy_1 rfl rfl ?_
              refine ex_iconst (x := 3) dX9_lotsBy_2 rfl rfl ?_
              refine ex_callS (rest := []) dX9_lotsBy_3 rfl qp_8_81 rfl rfl rfl (Nat.le_of_ble_eq_true rfl) (k_in _ _ _ _) (Nat.le_of_ble_eq_true rfl) ?_
              show Ex qm_lay _ mX9_lotsBy 6 [some (.ref 55), some (.int (nI s)), some (.int (nI q)), some (.int a), some (.int (nI n)), none, none, none, none] [.int (b2i (tn_in (nI s) 0 3))] σ _ _
              refine ex_if_eq (q := 29) (q2 := 9) dX9_lotsBy_6 rfl rfl (fun hh => absurd hh (b2i_n0.mpr (c1))) (fun _ => ?_)
              refine ex_iload_n dX9_lotsBy_9 rfl rfl ?_
              refine ex_iconst (x := 0) dX9_lotsBy_10 rfl rfl ?_
              refine ex_iconst (x := 2) dX9_lotsBy_11 rfl rfl ?_
              refine ex_callS (rest := []) dX9_lotsBy_12 rfl qp_8_81 rfl rfl rfl (Nat.le_of_ble_eq_true rfl) (k_in _ _ _ _) (Nat.le_of_ble_eq_true rfl) ?_
              show Ex qm_lay _ mX9_lotsBy 15 [some (.ref 55), some (.int (nI s)), some (.int (nI q)), some (.int a), some (.int (nI n)), none, none, none, none] [.int (b2i (tn_in (nI q) 0 2))] σ _ _
              refine ex_if_eq (q := 29) (q2 := 18) dX9_lotsBy_15 rfl rfl (fun hh => absurd hh (b2i_n0.mpr (c2))) (fun _ => ?_)
              refine ex_iload dX9_lotsBy_18 rfl rfl ?_
              refine ex_iconst (x := 0) dX9_lotsBy_20 rfl rfl ?_
              refine ex_bipush (x := 7) dX9_lotsBy_21 rfl rfl ?_
              refine ex_callS (rest := []) dX9_lotsBy_23 rfl qp_8_81 rfl rfl rfl (Nat.le_of_ble_eq_true rfl) (k_in _ _ _ _) (Nat.le_of_ble_eq_true rfl) ?_
              show Ex qm_lay _ mX9_lotsBy 26 [some (.ref 55), some (.int (nI s)), some (.int (nI q)), some (.int a), some (.int (nI n)), none, none, none, none] [.int (b2i (tn_in (nI n) 0 7))] σ _ _
              refine ex_if_ne (q := 32) (q2 := 29) dX9_lotsBy_26 rfl rfl (fun _ => ?_) (fun hh => absurd (b2i_n0.mpr (c3)) hh)
              refine ex_aload_n dX9_lotsBy_32 rfl rfl ?_
              refine ex_getR (b := 65) dX9_lotsBy_33 rfl qp_8_37 rfl rfl ?_
              refine ex_iload_n dX9_lotsBy_36 rfl rfl ?_
              refine ex_iaload (k := s) (x := S.1 s) dX9_lotsBy_37 rfl rfl (rfl) (by omega) (by decide) ((hM.2.2.2.2.1 s (by omega)).1) ?_
              refine ex_iconst (x := (-1)) dX9_lotsBy_38 rfl rfl ?_
              refine ex_icmp_ne (q := 45) (q2 := 42) dX9_lotsBy_39 rfl rfl (fun _ => ?_) (fun hh => absurd (c4) hh)
              refine ex_aload_n dX9_lotsBy_45 rfl rfl ?_
              refine ex_getR (b := 65) dX9_lotsBy_46 rfl qp_8_37 rfl rfl ?_
              refine ex_iload_n dX9_lotsBy_49 rfl rfl ?_
              refine ex_iaload (k := s) (x := S.1 s) dX9_lotsBy_50 rfl rfl (rfl) (by omega) (by decide) ((hM.2.2.2.2.1 s (by omega)).1) ?_
              refine ex_iload_n dX9_lotsBy_51 rfl rfl ?_
              refine ex_icmp_eq (q := 58) (q2 := 55) dX9_lotsBy_52 rfl rfl (fun _ => ?_) (fun hh => absurd (c5) hh)
              refine ex_iconst (x := 0) dX9_lotsBy_58 rfl rfl ?_
              refine ex_istore (ls' := [some (.ref 55), some (.int (nI s)), some (.int (nI q)), some (.int a), some (.int (nI n)), some (.int 0), none, none, none]) dX9_lotsBy_59 rfl (Nat.le_of_ble_eq_true rfl) rfl rfl ?_
              refine ex_iconst (x := 0) dX9_lotsBy_61 rfl rfl ?_
              refine ex_istore (ls' := [some (.ref 55), some (.int (nI s)), some (.int (nI q)), some (.int a), some (.int (nI n)), some (.int 0), some (.int 0), none, none]) dX9_lotsBy_62 rfl (Nat.le_of_ble_eq_true rfl) rfl rfl ?_
              refine ex_iload dX9_lotsBy_64 rfl rfl ?_
              refine ex_iload dX9_lotsBy_66 rfl rfl ?_
              refine ex_icmp_ge (q := 162) (q2 := 71) dX9_lotsBy_68 rfl rfl (fun hh => absurd hh (nI_ge (a := 0) (b := n) (by omega) (by omega))) (fun _ => ?_)
              refine ex_iload_n dX9_lotsBy_71 rfl rfl ?_
              refine ex_iconst (x := 3) dX9_lotsBy_72 rfl rfl ?_
              refine ex_iload dX9_lotsBy_73 rfl rfl ?_
              refine ex_imul (z := nI (3 * 0)) dX9_lotsBy_75 rfl (pk_mul 3 0) ?_
              refine ex_iadd (z := a + nI (3 * 0)) dX9_lotsBy_76 rfl (rfl) ?_
              refine ex_istore (ls' := [some (.ref 55), some (.int (nI s)), some (.int (nI q)), some (.int a), some (.int (nI n)), some (.int 0), some (.int 0), some (.int (a + nI (3 * 0))), none]) dX9_lotsBy_77 rfl (Nat.le_of_ble_eq_true rfl) rfl rfl ?_
              refine ex_iload_n dX9_lotsBy_79 rfl rfl ?_
              refine ex_if_lt (q := 102) (q2 := 83) dX9_lotsBy_80 rfl rfl (fun h80 => ?_) (fun h80 => ?_)
              · refine ex_bipush (x := (-12)) dX9_lotsBy_102 rfl rfl ?_
                exact ex_iret dX9_lotsBy_104 rfl rfl rfl
              · refine ex_iload dX9_lotsBy_83 rfl rfl ?_
                refine ex_iload_n dX9_lotsBy_85 rfl rfl ?_
                refine ex_icmp_lt (q := 102) (q2 := 89) dX9_lotsBy_86 rfl rfl (fun h86 => ?_) (fun h86 => ?_)
                · refine ex_bipush (x := (-12)) dX9_lotsBy_102 rfl rfl ?_
                  exact ex_iret dX9_lotsBy_104 rfl rfl rfl
                · refine ex_iload dX9_lotsBy_89 rfl rfl ?_
                  refine ex_aload_n dX9_lotsBy_91 rfl rfl ?_
                  refine ex_getR (b := 66) dX9_lotsBy_92 rfl qp_8_40 rfl rfl ?_
                  refine ex_iload_n dX9_lotsBy_95 rfl rfl ?_
                  refine ex_iaload (k := s) (x := nI (S.2.1 s)) dX9_lotsBy_96 rfl rfl (rfl) (by omega) (by decide) ((hM.2.2.2.2.1 s (by omega)).2.1) ?_
                  refine ex_iconst (x := 3) dX9_lotsBy_97 rfl rfl ?_
                  refine ex_isub (z := nI (S.2.1 s) - 3) dX9_lotsBy_98 rfl (rfl) ?_
                  refine ex_icmp_le (q := 105) (q2 := 102) dX9_lotsBy_99 rfl rfl (fun h99 => ?_) (fun h99 => ?_)
                  · exact absurd ⟨h80, (by have e0 : a + nI (3 * 0) = a := (by rw [Nat.mul_zero, nI_0, Int32.add_zero]); rw [e0] at h99; exact h99)⟩ c8
                  · refine ex_bipush (x := (-12)) dX9_lotsBy_102 rfl rfl ?_
                    exact ex_iret dX9_lotsBy_104 rfl rfl rfl
      · refine J.q hG (.int (-13)) (fun σ hC => ?_) (fun σ hM => ?_)
        · have h : TR σ 9 18 T := hC.1
          refine Ok.of (ls := [some (.ref 54), some (.int (nI s)), some (.int (nI q)), some (.int a), some (.int (nI n)), none, none, none, none]) (Nat.le_of_ble_eq_true rfl) rfl ?_
          refine ex_iload_n dX8_lotsBy_0 rfl rfl ?_
          refine ex_callS (rest := []) dX8_lotsBy_1 rfl qp_7_201 rfl rfl rfl (Nat.le_of_ble_eq_true rfl) (c_isSheet _ _) (Nat.le_of_ble_eq_true rfl) ?_
          show Ex qm_lay _ mX8_lotsBy 4 [some (.ref 54), some (.int (nI s)), some (.int (nI q)), some (.int a), some (.int (nI n)), none, none, none, none] [.int (b2i (tn_in (nI s) 0 3))] σ _ _
          refine ex_if_eq (q := 28) (q2 := 7) dX8_lotsBy_4 rfl rfl (fun hh => absurd hh (b2i_n0.mpr (c1))) (fun _ => ?_)
          refine ex_iload_n dX8_lotsBy_7 rfl rfl ?_
          refine ex_if_lt (q := 28) (q2 := 11) dX8_lotsBy_8 rfl rfl (fun hh => absurd hh (nI_pos (by omega))) (fun _ => ?_)
          refine ex_iload_n dX8_lotsBy_11 rfl rfl ?_
          refine ex_iconst (x := 2) dX8_lotsBy_12 rfl rfl ?_
          refine ex_icmp_gt (q := 28) (q2 := 16) dX8_lotsBy_13 rfl rfl (fun hh => absurd hh (nI_nlt (a := 2) (b := q) (by omega) (by omega))) (fun _ => ?_)
          refine ex_iload dX8_lotsBy_16 rfl rfl ?_
          refine ex_if_lt (q := 28) (q2 := 21) dX8_lotsBy_18 rfl rfl (fun hh => absurd hh (nI_pos (by omega))) (fun _ => ?_)
          refine ex_iload dX8_lotsBy_21 rfl rfl ?_
          refine ex_bipush (x := 7) dX8_lotsBy_23 rfl rfl ?_
          refine ex_icmp_le (q := 31) (q2 := 28) dX8_lotsBy_25 rfl rfl (fun _ => ?_) (fun hh => absurd (nI_le (a := n) (b := 7) (by omega) (by omega)) hh)
          refine ex_aload_n dX8_lotsBy_31 rfl rfl ?_
          refine ex_getR (b := 40) dX8_lotsBy_32 rfl qp_7_36 rfl rfl ?_
          refine ex_iload_n dX8_lotsBy_35 rfl rfl ?_
          refine ex_callV (a := 40) (rest := []) dX8_lotsBy_36 rfl qp_7_204 rfl rfl rfl rfl rfl (Nat.le_of_ble_eq_true rfl) (c_isMissing hS hC.2.2.2.2 (by omega)) (Nat.le_of_ble_eq_true rfl) ?_
          show Ex qm_lay _ mX8_lotsBy 39 [some (.ref 54), some (.int (nI s)), some (.int (nI q)), some (.int a), some (.int (nI n)), none, none, none, none] [.int (b2i (decide (S.1 s = -1)))] σ _ _
          refine ex_if_eq (q := 45) (q2 := 42) dX8_lotsBy_39 rfl rfl (fun _ => ?_) (fun hh => absurd (b2i_0.mpr (decide_eq_false c4)) hh)
          refine ex_aload_n dX8_lotsBy_45 rfl rfl ?_
          refine ex_getR (b := 40) dX8_lotsBy_46 rfl qp_7_36 rfl rfl ?_
          refine ex_getR (b := 43) dX8_lotsBy_49 rfl qp_7_288 rfl rfl ?_
          refine ex_iload_n dX8_lotsBy_52 rfl rfl ?_
          refine ex_iaload (k := s) (x := S.1 s) dX8_lotsBy_53 rfl rfl (rfl) (by omega) (by decide) ((hC.2.2.2.2 s (by omega)).1) ?_
          refine ex_iload_n dX8_lotsBy_54 rfl rfl ?_
          refine ex_icmp_eq (q := 61) (q2 := 58) dX8_lotsBy_55 rfl rfl (fun hh => absurd hh (c5)) (fun _ => ?_)
          refine ex_bipush (x := (-13)) dX8_lotsBy_58 rfl rfl ?_
          exact ex_iret dX8_lotsBy_60 rfl rfl rfl
        · have h : MR σ T := hM.1
          refine Ok.of (ls := [some (.ref 55), some (.int (nI s)), some (.int (nI q)), some (.int a), some (.int (nI n)), none, none, none, none]) (Nat.le_of_ble_eq_true rfl) rfl ?_
          refine ex_iload_n dX9_lotsBy_0 rfl rfl ?_
          refine ex_iconst (x := 0) dX9_lotsBy_1 rfl rfl ?_
          refine ex_iconst (x := 3) dX9_lotsBy_2 rfl rfl ?_
          refine ex_callS (rest := []) dX9_lotsBy_3 rfl qp_8_81 rfl rfl rfl (Nat.le_of_ble_eq_true rfl) (k_in _ _ _ _) (Nat.le_of_ble_eq_true rfl) ?_
          show Ex qm_lay _ mX9_lotsBy 6 [some (.ref 55), some (.int (nI s)), some (.int (nI q)), some (.int a), some (.int (nI n)), none, none, none, none] [.int (b2i (tn_in (nI s) 0 3))] σ _ _
          refine ex_if_eq (q := 29) (q2 := 9) dX9_lotsBy_6 rfl rfl (fun hh => absurd hh (b2i_n0.mpr (c1))) (fun _ => ?_)
          refine ex_iload_n dX9_lotsBy_9 rfl rfl ?_
          refine ex_iconst (x := 0) dX9_lotsBy_10 rfl rfl ?_
          refine ex_iconst (x := 2) dX9_lotsBy_11 rfl rfl ?_
          refine ex_callS (rest := []) dX9_lotsBy_12 rfl qp_8_81 rfl rfl rfl (Nat.le_of_ble_eq_true rfl) (k_in _ _ _ _) (Nat.le_of_ble_eq_true rfl) ?_
          show Ex qm_lay _ mX9_lotsBy 15 [some (.ref 55), some (.int (nI s)), some (.int (nI q)), some (.int a), some (.int (nI n)), none, none, none, none] [.int (b2i (tn_in (nI q) 0 2))] σ _ _
          refine ex_if_eq (q := 29) (q2 := 18) dX9_lotsBy_15 rfl rfl (fun hh => absurd hh (b2i_n0.mpr (c2))) (fun _ => ?_)
          refine ex_iload dX9_lotsBy_18 rfl rfl ?_
          refine ex_iconst (x := 0) dX9_lotsBy_20 rfl rfl ?_
          refine ex_bipush (x := 7) dX9_lotsBy_21 rfl rfl ?_
          refine ex_callS (rest := []) dX9_lotsBy_23 rfl qp_8_81 rfl rfl rfl (Nat.le_of_ble_eq_true rfl) (k_in _ _ _ _) (Nat.le_of_ble_eq_true rfl) ?_
          show Ex qm_lay _ mX9_lotsBy 26 [some (.ref 55), some (.int (nI s)), some (.int (nI q)), some (.int a), some (.int (nI n)), none, none, none, none] [.int (b2i (tn_in (nI n) 0 7))] σ _ _
          refine ex_if_ne (q := 32) (q2 := 29) dX9_lotsBy_26 rfl rfl (fun _ => ?_) (fun hh => absurd (b2i_n0.mpr (c3)) hh)
          refine ex_aload_n dX9_lotsBy_32 rfl rfl ?_
          refine ex_getR (b := 65) dX9_lotsBy_33 rfl qp_8_37 rfl rfl ?_
          refine ex_iload_n dX9_lotsBy_36 rfl rfl ?_
          refine ex_iaload (k := s) (x := S.1 s) dX9_lotsBy_37 rfl rfl (rfl) (by omega) (by decide) ((hM.2.2.2.2.1 s (by omega)).1) ?_
          refine ex_iconst (x := (-1)) dX9_lotsBy_38 rfl rfl ?_
          refine ex_icmp_ne (q := 45) (q2 := 42) dX9_lotsBy_39 rfl rfl (fun _ => ?_) (fun hh => absurd (c4) hh)
          refine ex_aload_n dX9_lotsBy_45 rfl rfl ?_
          refine ex_getR (b := 65) dX9_lotsBy_46 rfl qp_8_37 rfl rfl ?_
          refine ex_iload_n dX9_lotsBy_49 rfl rfl ?_
          refine ex_iaload (k := s) (x := S.1 s) dX9_lotsBy_50 rfl rfl (rfl) (by omega) (by decide) ((hM.2.2.2.2.1 s (by omega)).1) ?_
          refine ex_iload_n dX9_lotsBy_51 rfl rfl ?_
          refine ex_icmp_eq (q := 58) (q2 := 55) dX9_lotsBy_52 rfl rfl (fun hh => absurd hh (c5)) (fun _ => ?_)
          refine ex_bipush (x := (-13)) dX9_lotsBy_55 rfl rfl ?_
          exact ex_iret dX9_lotsBy_57 rfl rfl rfl
  · refine J.q hG (.int (-2)) (fun σ hC => ?_) (fun σ hM => ?_)
    · have h : TR σ 9 18 T := hC.1
      refine Ok.of (ls := [some (.ref 54), some (.int s), some (.int x), some (.int a), some (.int n), none, none, none, none]) (Nat.le_of_ble_eq_true rfl) rfl ?_
      refine ex_iload_n dX8_lotsBy_0 rfl rfl ?_
      refine ex_callS (rest := []) dX8_lotsBy_1 rfl qp_7_201 rfl rfl rfl (Nat.le_of_ble_eq_true rfl) (c_isSheet _ _) (Nat.le_of_ble_eq_true rfl) ?_
      show Ex qm_lay _ mX8_lotsBy 4 [some (.ref 54), some (.int s), some (.int x), some (.int a), some (.int n), none, none, none, none] [.int (b2i (tn_in s 0 3))] σ _ _
      refine ex_if_eq (q := 28) (q2 := 7) dX8_lotsBy_4 rfl rfl (fun h4 => ?_) (fun h4 => ?_)
      · have hb4 : (tn_in s 0 3) = false := b2i_0.mp h4
        refine ex_bipush (x := (-2)) dX8_lotsBy_28 rfl rfl ?_
        exact ex_iret dX8_lotsBy_30 rfl rfl rfl
      · have hb4 : (tn_in s 0 3) = true := b2i_n0.mp h4
        refine ex_iload_n dX8_lotsBy_7 rfl rfl ?_
        refine ex_if_lt (q := 28) (q2 := 11) dX8_lotsBy_8 rfl rfl (fun h8 => ?_) (fun h8 => ?_)
        · refine ex_bipush (x := (-2)) dX8_lotsBy_28 rfl rfl ?_
          exact ex_iret dX8_lotsBy_30 rfl rfl rfl
        · refine ex_iload_n dX8_lotsBy_11 rfl rfl ?_
          refine ex_iconst (x := 2) dX8_lotsBy_12 rfl rfl ?_
          refine ex_icmp_gt (q := 28) (q2 := 16) dX8_lotsBy_13 rfl rfl (fun h13 => ?_) (fun h13 => ?_)
          · refine ex_bipush (x := (-2)) dX8_lotsBy_28 rfl rfl ?_
            exact ex_iret dX8_lotsBy_30 rfl rfl rfl
          · refine ex_iload dX8_lotsBy_16 rfl rfl ?_
            refine ex_if_lt (q := 28) (q2 := 21) dX8_lotsBy_18 rfl rfl (fun h18 => ?_) (fun h18 => ?_)
            · refine ex_bipush (x := (-2)) dX8_lotsBy_28 rfl rfl ?_
              exact ex_iret dX8_lotsBy_30 rfl rfl rfl
            · refine ex_iload dX8_lotsBy_21 rfl rfl ?_
              refine ex_bipush (x := 7) dX8_lotsBy_23 rfl rfl ?_
              refine ex_icmp_le (q := 31) (q2 := 28) dX8_lotsBy_25 rfl rfl (fun h25 => ?_) (fun h25 => ?_)
              · exact absurd ⟨hb4, decide_eq_true ⟨Int32.not_lt.mp h8, Int32.not_lt.mp h13⟩, decide_eq_true ⟨Int32.not_lt.mp h18, h25⟩⟩ c1
              · refine ex_bipush (x := (-2)) dX8_lotsBy_28 rfl rfl ?_
                exact ex_iret dX8_lotsBy_30 rfl rfl rfl
    · have h : MR σ T := hM.1
      refine Ok.of (ls := [some (.ref 55), some (.int s), some (.int x), some (.int a), some (.int n), none, none, none, none]) (Nat.le_of_ble_eq_true rfl) rfl ?_
      refine ex_iload_n dX9_lotsBy_0 rfl rfl ?_
      refine ex_iconst (x := 0) dX9_lotsBy_1 rfl rfl ?_
      refine ex_iconst (x := 3) dX9_lotsBy_2 rfl rfl ?_
      refine ex_callS (rest := []) dX9_lotsBy_3 rfl qp_8_81 rfl rfl rfl (Nat.le_of_ble_eq_true rfl) (k_in _ _ _ _) (Nat.le_of_ble_eq_true rfl) ?_
      show Ex qm_lay _ mX9_lotsBy 6 [some (.ref 55), some (.int s), some (.int x), some (.int a), some (.int n), none, none, none, none] [.int (b2i (tn_in s 0 3))] σ _ _
      refine ex_if_eq (q := 29) (q2 := 9) dX9_lotsBy_6 rfl rfl (fun h6 => ?_) (fun h6 => ?_)
      · have hb6 : (tn_in s 0 3) = false := b2i_0.mp h6
        refine ex_bipush (x := (-2)) dX9_lotsBy_29 rfl rfl ?_
        exact ex_iret dX9_lotsBy_31 rfl rfl rfl
      · have hb6 : (tn_in s 0 3) = true := b2i_n0.mp h6
        refine ex_iload_n dX9_lotsBy_9 rfl rfl ?_
        refine ex_iconst (x := 0) dX9_lotsBy_10 rfl rfl ?_
        refine ex_iconst (x := 2) dX9_lotsBy_11 rfl rfl ?_
        refine ex_callS (rest := []) dX9_lotsBy_12 rfl qp_8_81 rfl rfl rfl (Nat.le_of_ble_eq_true rfl) (k_in _ _ _ _) (Nat.le_of_ble_eq_true rfl) ?_
        show Ex qm_lay _ mX9_lotsBy 15 [some (.ref 55), some (.int s), some (.int x), some (.int a), some (.int n), none, none, none, none] [.int (b2i (tn_in x 0 2))] σ _ _
        refine ex_if_eq (q := 29) (q2 := 18) dX9_lotsBy_15 rfl rfl (fun h15 => ?_) (fun h15 => ?_)
        · have hb15 : (tn_in x 0 2) = false := b2i_0.mp h15
          refine ex_bipush (x := (-2)) dX9_lotsBy_29 rfl rfl ?_
          exact ex_iret dX9_lotsBy_31 rfl rfl rfl
        · have hb15 : (tn_in x 0 2) = true := b2i_n0.mp h15
          refine ex_iload dX9_lotsBy_18 rfl rfl ?_
          refine ex_iconst (x := 0) dX9_lotsBy_20 rfl rfl ?_
          refine ex_bipush (x := 7) dX9_lotsBy_21 rfl rfl ?_
          refine ex_callS (rest := []) dX9_lotsBy_23 rfl qp_8_81 rfl rfl rfl (Nat.le_of_ble_eq_true rfl) (k_in _ _ _ _) (Nat.le_of_ble_eq_true rfl) ?_
          show Ex qm_lay _ mX9_lotsBy 26 [some (.ref 55), some (.int s), some (.int x), some (.int a), some (.int n), none, none, none, none] [.int (b2i (tn_in n 0 7))] σ _ _
          refine ex_if_ne (q := 32) (q2 := 29) dX9_lotsBy_26 rfl rfl (fun h26 => ?_) (fun h26 => ?_)
          · have hb26 : (tn_in n 0 7) = true := b2i_n0.mp h26
            exact absurd ⟨hb6, hb15, hb26⟩ c1
          · have hb26 : (tn_in n 0 7) = false := b2i_0.mp (Decidable.not_not.mp h26)
            refine ex_bipush (x := (-2)) dX9_lotsBy_29 rfl rfl ?_
            exact ex_iret dX9_lotsBy_31 rfl rfl rfl

