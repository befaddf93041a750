theorem c_hasLot_0 {σ : qm_St} {T : tn_T} (hT : tn_ok T) (h : TR σ 9 18 T) (l : Int32) : Ok qm_lay 0 mX7_hasLot [.ref 22, .int l] σ (some (.int (b2i (tn_has T l)))) σ := by
  refine Ok.of (ls := [some (.ref 22), some (.int l)]) (Nat.le_of_ble_eq_true rfl) rfl ?_
  refine ex_iload_n dX7_hasLot_0 rfl rfl ?_
  refine ex_if_lt (q := 16) (q2 := 4) dX7_hasLot_1 rfl rfl (fun h1 => ?_) (fun h1 => ?_)
  · refine ex_iconst (x := 0) dX7_hasLot_16 rfl rfl ?_
    exact ex_zret dX7_hasLot_17 rfl (by decide) (by first | exact b2i_t (decide_eq_true ⟨Int32.not_lt.mp h1, Int32.not_le.mp h9⟩) | exact b2i_f (decide_eq_false (fun z => Int32.not_lt.mpr z.1 h1)) | exact b2i_f (decide_eq_false (fun z => Int32.not_le.mpr z.2 h9))) rfl
  · refine ex_iload_n dX7_hasLot_4 rfl rfl ?_
    refine ex_aload_n dX7_hasLot_5 rfl rfl ?_
    refine ex_getI (s := 9) (x := nI (tn_L T)) dX7_hasLot_6 rfl qp_6_27 rfl rfl (h.1) ?_
    refine ex_icmp_ge (q := 16) (q2 := 12) dX7_hasLot_9 rfl rfl (fun h9 => ?_) (fun h9 => ?_)
    · refine ex_iconst (x := 0) dX7_hasLot_16 rfl rfl ?_
      exact ex_zret dX7_hasLot_17 rfl (by decide) (by first | exact b2i_t (decide_eq_true ⟨Int32.not_lt.mp h1, Int32.not_le.mp h9⟩) | exact b2i_f (decide_eq_false (fun z => Int32.not_lt.mpr z.1 h1)) | exact b2i_f (decide_eq_false (fun z => Int32.not_le.mpr z.2 h9))) rfl
    · refine ex_iconst (x := 1) dX7_hasLot_12 rfl rfl ?_
      refine ex_goto (q := 17) dX7_hasLot_13 rfl ?_
      exact ex_zret dX7_hasLot_17 rfl (by decide) (by first | exact b2i_t (decide_eq_true ⟨Int32.not_lt.mp h1, Int32.not_le.mp h9⟩) | exact b2i_f (decide_eq_false (fun z => Int32.not_lt.mpr z.1 h1)) | exact b2i_f (decide_eq_false (fun z => Int32.not_le.mpr z.2 h9))) rfl

theorem c_isBuilt_0 {σ : qm_St} {T : tn_T} (hT : tn_ok T) (h : TR σ 9 18 T) (l : Int32) : Ok qm_lay 1 mX7_isBuilt [.ref 22, .int l] σ (some (.int (b2i (tn_blt T l)))) σ := by
  refine Ok.of (ls := [some (.ref 22), some (.int l)]) (Nat.le_of_ble_eq_true rfl) rfl ?_
  refine ex_aload_n dX7_isBuilt_0 rfl rfl ?_
  refine ex_iload_n dX7_isBuilt_1 rfl rfl ?_
  refine ex_callV (a := 22) (rest := []) dX7_isBuilt_2 rfl qp_6_46 rfl rfl rfl rfl rfl (Nat.le_of_ble_eq_true rfl) (c_hasLot_0 hT h l) (Nat.le_of_ble_eq_true rfl) ?_
  show Ex qm_lay _ mX7_isBuilt 5 [some (.ref 22), some (.int l)] [.int (b2i (tn_has T l))] σ _ _
  refine ex_if_eq (q := 23) (q2 := 8) dX7_isBuilt_5 rfl rfl (fun h5 => ?_) (fun h5 => ?_)
  · refine ex_iconst (x := 0) dX7_isBuilt_23 rfl rfl ?_
    exact ex_zret dX7_isBuilt_24 rfl (by decide) (by sorry) rfl
  · refine ex_aload_n dX7_isBuilt_8 rfl rfl ?_
    refine ex_getI (s := 12) (x := nI (tn_u T)) dX7_isBuilt_9 rfl qp_6_37 rfl rfl (h.2.2.2.1) ?_
    refine ex_iload_n dX7_isBuilt_12 rfl rfl ?_
    refine ex_ishr (z := (nI (tn_u T)) >>> (l &&& 31)) dX7_isBuilt_13 rfl (rfl) ?_
    refine ex_iconst (x := 1) dX7_isBuilt_14 rfl rfl ?_
    refine ex_iand (z := ((nI (tn_u T)) >>> (l &&& 31)) &&& 1) dX7_isBuilt_15 rfl (rfl) ?_
    refine ex_if_eq (q := 23) (q2 := 19) dX7_isBuilt_16 rfl rfl (fun h16 => ?_) (fun h16 => ?_)
    · refine ex_iconst (x := 0) dX7_isBuilt_23 rfl rfl ?_
      exact ex_zret dX7_isBuilt_24 rfl (by decide) (by sorry) rfl
    · refine ex_iconst (x := 1) dX7_isBuilt_19 rfl rfl ?_
      refine ex_goto (q := 24) dX7_isBuilt_20 rfl ?_
      exact ex_zret dX7_isBuilt_24 rfl (by decide) (by sorry) rfl

theorem c_hasLot_1 {σ : qm_St} {T : tn_T} (hT : tn_ok T) (h : TR σ 13 23 T) (l : Int32) : Ok qm_lay 0 mX7_hasLot [.ref 28, .int l] σ (some (.int (b2i (tn_has T l)))) σ := by
  refine Ok.of (ls := [some (.ref 28), some (.int l)]) (Nat.le_of_ble_eq_true rfl) rfl ?_
  refine ex_iload_n dX7_hasLot_0 rfl rfl ?_
  refine ex_if_lt (q := 16) (q2 := 4) dX7_hasLot_1 rfl rfl (fun h1 => ?_) (fun h1 => ?_)
  · refine ex_iconst (x := 0) dX7_hasLot_16 rfl rfl ?_
    exact ex_zret dX7_hasLot_17 rfl (by decide) (by first | exact b2i_t (decide_eq_true ⟨Int32.not_lt.mp h1, Int32.not_le.mp h9⟩) | exact b2i_f (decide_eq_false (fun z => Int32.not_lt.mpr z.1 h1)) | exact b2i_f (decide_eq_false (fun z => Int32.not_le.mpr z.2 h9))) rfl
  · refine ex_iload_n dX7_hasLot_4 rfl rfl ?_
    refine ex_aload_n dX7_hasLot_5 rfl rfl ?_
    refine ex_getI (s := 13) (x := nI (tn_L T)) dX7_hasLot_6 rfl qp_6_27 rfl rfl (h.1) ?_
    refine ex_icmp_ge (q := 16) (q2 := 12) dX7_hasLot_9 rfl rfl (fun h9 => ?_) (fun h9 => ?_)
    · refine ex_iconst (x := 0) dX7_hasLot_16 rfl rfl ?_
      exact ex_zret dX7_hasLot_17 rfl (by decide) (by first | exact b2i_t (decide_eq_true ⟨Int32.not_lt.mp h1, Int32.not_le.mp h9⟩) | exact b2i_f (decide_eq_false (fun z => Int32.not_lt.mpr z.1 h1)) | exact b2i_f (decide_eq_false (fun z => Int32.not_le.mpr z.2 h9))) rfl
    · refine ex_iconst (x := 1) dX7_hasLot_12 rfl rfl ?_
      refine ex_goto (q := 17) dX7_hasLot_13 rfl ?_
      exact ex_zret dX7_hasLot_17 rfl (by decide) (by first | exact b2i_t (decide_eq_true ⟨Int32.not_lt.mp h1, Int32.not_le.mp h9⟩) | exact b2i_f (decide_eq_false (fun z => Int32.not_lt.mpr z.1 h1)) | exact b2i_f (decide_eq_false (fun z => Int32.not_le.mpr z.2 h9))) rfl

theorem c_isBuilt_1 {σ : qm_St} {T : tn_T} (hT : tn_ok T) (h : TR σ 13 23 T) (l : Int32) : Ok qm_lay 1 mX7_isBuilt [.ref 28, .int l] σ (some (.int (b2i (tn_blt T l)))) σ := by
  refine Ok.of (ls := [some (.ref 28), some (.int l)]) (Nat.le_of_ble_eq_true rfl) rfl ?_
  refine ex_aload_n dX7_isBuilt_0 rfl rfl ?_
  refine ex_iload_n dX7_isBuilt_1 rfl rfl ?_
  refine ex_callV (a := 28) (rest := []) dX7_isBuilt_2 rfl qp_6_46 rfl rfl rfl rfl rfl (Nat.le_of_ble_eq_true rfl) (c_hasLot_1 hT h l) (Nat.le_of_ble_eq_true rfl) ?_
  show Ex qm_lay _ mX7_isBuilt 5 [some (.ref 28), some (.int l)] [.int (b2i (tn_has T l))] σ _ _
  refine ex_if_eq (q := 23) (q2 := 8) dX7_isBuilt_5 rfl rfl (fun h5 => ?_) (fun h5 => ?_)
  · refine ex_iconst (x := 0) dX7_isBuilt_23 rfl rfl ?_
    exact ex_zret dX7_isBuilt_24 rfl (by decide) (by sorry) rfl
  · refine ex_aload_n dX7_isBuilt_8 rfl rfl ?_
    refine ex_getI (s := 16) (x := nI (tn_u T)) dX7_isBuilt_9 rfl qp_6_37 rfl rfl (h.2.2.2.1) ?_
    refine ex_iload_n dX7_isBuilt_12 rfl rfl ?_
    refine ex_ishr (z := (nI (tn_u T)) >>> (l &&& 31)) dX7_isBuilt_13 rfl (rfl) ?_
    refine ex_iconst (x := 1) dX7_isBuilt_14 rfl rfl ?_
    refine ex_iand (z := ((nI (tn_u T)) >>> (l &&& 31)) &&& 1) dX7_isBuilt_15 rfl (rfl) ?_
    refine ex_if_eq (q := 23) (q2 := 19) dX7_isBuilt_16 rfl rfl (fun h16 => ?_) (fun h16 => ?_)
    · refine ex_iconst (x := 0) dX7_isBuilt_23 rfl rfl ?_
      exact ex_zret dX7_isBuilt_24 rfl (by decide) (by sorry) rfl
    · refine ex_iconst (x := 1) dX7_isBuilt_19 rfl rfl ?_
      refine ex_goto (q := 24) dX7_isBuilt_20 rfl ?_
      exact ex_zret dX7_isBuilt_24 rfl (by decide) (by sorry) rfl
