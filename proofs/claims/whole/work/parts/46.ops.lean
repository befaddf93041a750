theorem tn_in_n {n : Nat} {x y z : Nat} (hy : y < 2 ^ 31) (hn : n < 2 ^ 31) (h : tn_in (nI n) (nI x) (nI y) = true) (hx : x < 2 ^ 31) : x ≤ n ∧ n ≤ y := ⟨(nI_leI hx hn).mp (of_decide_eq_true h).1, (nI_leI hn hy).mp (of_decide_eq_true h).2⟩
theorem gs_hr3 {m : Nat} (hm : m ≤ 40) (x : Int32) : gs_hr m x 3 = true ↔ ¬ x < 0 ∧ x ≤ nI m - 3 := by
  have e1 := pk_sub_toInt (a := m) (b := 3) (by omega) (by decide)
  have e2 : (nI m).toInt = (m : Int) := nI_toInt (by omega)
  have e3 : nI m - 3 = nI m - nI 3 := rfl
  have e0 : (0 : Int32).toInt = 0 := rfl
  have e4 : (3 : Int32).toInt = 3 := rfl
  rw [e3]
  constructor
  · intro h
    obtain ⟨h1, h2, h3⟩ := of_decide_eq_true h
    obtain ⟨a, ha, rfl⟩ := nI_of (Int32.not_lt.mpr h1)
    have ha2 : a ≤ m := (nI_leI ha (by omega)).mp h2
    rw [pk_sub ha2] at h3
    have h4 : 3 ≤ m - a := (nI_leI (a := 3) (by decide) (by omega)).mp h3
    refine ⟨nI_pos ha, ?_⟩
    rw [Int32.le_iff_toInt_le, e1, nI_toInt ha]; omega
  · rintro ⟨h1, h2⟩
    obtain ⟨a, ha, rfl⟩ := nI_of h1
    rw [Int32.le_iff_toInt_le, e1, nI_toInt ha] at h2
    exact decide_eq_true ⟨nI_pos' ha, nI_le (by omega) (by omega), by rw [pk_sub (by omega)]; exact nI_le (a := 3) (by omega) (by omega)⟩

theorem c_addByte {ext : List qm_LE} {σ : qm_St} {n : Nat} (h8 : qm_rI σ 8 = nI n) (hn : n < 160) (x : Nat) : Ok (qm_layT ++ ext) 0 mX6_addByte [.ref 4, .int (nI x)] σ none (qm_wI (qm_wF σ 3 n (nI x)) 8 (nI (n + 1))) := by
  refine Ok.of (ls := [some (.ref 4), some (.int (nI x))]) (Nat.le_of_ble_eq_true rfl) rfl ?_
  refine ex_aload_n dX6_addByte_0 rfl rfl ?_
  refine ex_getI (s := 8) (x := nI n) dX6_addByte_1 rfl qp_5_55 rfl rfl (h8) ?_
  refine ex_sipush (x := 160) dX6_addByte_4 rfl rfl ?_
  refine ex_icmp_ge (q := 30) (q2 := 10) dX6_addByte_7 rfl rfl (fun hh => absurd hh (nI_ge (a := n) (b := 160) (by omega) (by omega))) (fun _ => ?_)
  refine ex_aload_n dX6_addByte_10 rfl rfl ?_
  refine ex_getR (b := 5) dX6_addByte_11 rfl qp_5_9 rfl rfl ?_
  refine ex_aload_n dX6_addByte_14 rfl rfl ?_
  refine ex_getI (s := 8) (x := nI n) dX6_addByte_15 rfl qp_5_55 rfl rfl (h8) ?_
  refine ex_iload_n dX6_addByte_18 rfl rfl ?_
  refine ex_iastore (k := n) (σ' := qm_wF σ 3 n (nI x)) dX6_addByte_19 rfl rfl (rfl) (by omega) (by decide) rfl ?_
  refine ex_aload_n dX6_addByte_20 rfl rfl ?_
  refine ex_dup dX6_addByte_21 rfl rfl ?_
  refine ex_getI (s := 8) (x := nI n) dX6_addByte_22 rfl qp_5_55 rfl rfl (h8) ?_
  refine ex_iconst (x := 1) dX6_addByte_25 rfl rfl ?_
  refine ex_iadd (z := nI (n + 1)) dX6_addByte_26 rfl (nI_add n 1) ?_
  refine ex_put (σ' := qm_wI (qm_wF σ 3 n (nI x)) 8 (nI (n + 1))) dX6_addByte_27 rfl qp_5_55 rfl rfl (Or.inl rfl) rfl ?_
  exact ex_vret dX6_addByte_30 rfl rfl rfl

set_option maxHeartbeats 2000000 in
theorem j_feed {T : tn_T} {X : gx_T} {P : gt_T} {Im : gi_T} {S : gs_T} (hG : gg_ok (T, X, P, Im, S)) (n a b c d e : Int32) : J mX8_feed mX9_feed [.int n, .int a, .int b, .int c, .int d, .int e] (T, X, P, Im, S) := by
  have hT : tn_ok T := hG.1
  have hX : gx_ok X := hG.2.1
  have hP : gt_ok P := hG.2.2.1
  have hI : gi_ok T (gx_n X) Im := hG.2.2.2.1
  have hS : gs_ok S := hG.2.2.2.2.1
  have hw : tn_w T < gx_n X := hG.2.2.2.2.2
  have hL := hT.1
  have hw6 := hT.2.1
  have hu := tn_u_lt hT
  have hX6 := hX.2.1
  have hP6 := hP.1
  by_cases c1 : tn_in n 1 5 = true ∧ tn_in a 0 255 = true ∧ tn_in b 0 255 = true ∧ tn_in c 0 255 = true ∧ tn_in d 0 255 = true ∧ tn_in e 0 255 = true
  · obtain ⟨c2, ca, cb, cc, cd, ce⟩ := c1
    obtain ⟨a, ha, rfl⟩ := tn_in_of (n := 255) (by decide) ca
    obtain ⟨b, hb, rfl⟩ := tn_in_of (n := 255) (by decide) cb
    obtain ⟨c, hc, rfl⟩ := tn_in_of (n := 255) (by decide) cc
    obtain ⟨d, hd, rfl⟩ := tn_in_of (n := 255) (by decide) cd
    obtain ⟨e, he, rfl⟩ := tn_in_of (n := 255) (by decide) ce
    obtain ⟨q, hq, rfl⟩ := tn_in_of (n := 5) (by decide) (show tn_in n 0 (nI 5) = true from decide_eq_true ⟨Int32.le_trans (by decide) (of_decide_eq_true c2).1, (of_decide_eq_true c2).2⟩)
    have hq1 : 1 ≤ q := (tn_in_n (x := 1) (y := 5) (z := 0) (by decide) (by omega) c2 (by decide)).1
    by_cases c3 : 160 < P.1 + q
    · refine J.q hG (.int (-4)) (fun σ hC => ?_) (fun σ hM => ?_)
      · have h : TR σ 9 18 T := hC.1
        refine Ok.of (ls := [some (.ref 54), some (.int (nI q)), some (.int (nI a)), some (.int (nI b)), some (.int (nI c)), some (.int (nI d)), some (.int (nI e))]) (Nat.le_of_ble_eq_true rfl) rfl ?_
        refine ex_iload_n dX8_feed_0 rfl rfl ?_
        refine ex_iconst (x := 1) dX8_feed_1 rfl rfl ?_
        refine ex_icmp_lt (q := 48) (q2 := 5) dX8_feed_2 rfl rfl (fun hh => absurd hh (nI_nlt (a := q) (b := 1) (by omega) (by omega))) (fun _ => ?_)
        refine ex_iload_n dX8_feed_5 rfl rfl ?_
        refine ex_iconst (x := 5) dX8_feed_6 rfl rfl ?_
        refine ex_icmp_gt (q := 48) (q2 := 10) dX8_feed_7 rfl rfl (fun hh => absurd hh (nI_nlt (a := 5) (b := q) (by omega) (by omega))) (fun _ => ?_)
        refine ex_iload_n dX8_feed_10 rfl rfl ?_
        refine ex_callS (rest := []) dX8_feed_11 rfl qp_7_84 rfl rfl rfl (Nat.le_of_ble_eq_true rfl) (c_isByte _ _) (Nat.le_of_ble_eq_true rfl) ?_
        show Ex qm_lay _ mX8_feed 14 [some (.ref 54), some (.int (nI q)), some (.int (nI a)), some (.int (nI b)), some (.int (nI c)), some (.int (nI d)), some (.int (nI e))] [.int (b2i (tn_in (nI a) 0 255))] σ _ _
        refine ex_if_eq (q := 48) (q2 := 17) dX8_feed_14 rfl rfl (fun hh => absurd hh (b2i_n0.mpr (ca))) (fun _ => ?_)
        refine ex_iload_n dX8_feed_17 rfl rfl ?_
        refine ex_callS (rest := []) dX8_feed_18 rfl qp_7_84 rfl rfl rfl (Nat.le_of_ble_eq_true rfl) (c_isByte _ _) (Nat.le_of_ble_eq_true rfl) ?_
        show Ex qm_lay _ mX8_feed 21 [some (.ref 54), some (.int (nI q)), some (.int (nI a)), some (.int (nI b)), some (.int (nI c)), some (.int (nI d)), some (.int (nI e))] [.int (b2i (tn_in (nI b) 0 255))] σ _ _
        refine ex_if_eq (q := 48) (q2 := 24) dX8_feed_21 rfl rfl (fun hh => absurd hh (b2i_n0.mpr (cb))) (fun _ => ?_)
        refine ex_iload dX8_feed_24 rfl rfl ?_
        refine ex_callS (rest := []) dX8_feed_26 rfl qp_7_84 rfl rfl rfl (Nat.le_of_ble_eq_true rfl) (c_isByte _ _) (Nat.le_of_ble_eq_true rfl) ?_
        show Ex qm_lay _ mX8_feed 29 [some (.ref 54), some (.int (nI q)), some (.int (nI a)), some (.int (nI b)), some (.int (nI c)), some (.int (nI d)), some (.int (nI e))] [.int (b2i (tn_in (nI c) 0 255))] σ _ _
        refine ex_if_eq (q := 48) (q2 := 32) dX8_feed_29 rfl rfl (fun hh => absurd hh (b2i_n0.mpr (cc))) (fun _ => ?_)
        refine ex_iload dX8_feed_32 rfl rfl ?_
        refine ex_callS (rest := []) dX8_feed_34 rfl qp_7_84 rfl rfl rfl (Nat.le_of_ble_eq_true rfl) (c_isByte _ _) (Nat.le_of_ble_eq_true rfl) ?_
        show Ex qm_lay _ mX8_feed 37 [some (.ref 54), some (.int (nI q)), some (.int (nI a)), some (.int (nI b)), some (.int (nI c)), some (.int (nI d)), some (.int (nI e))] [.int (b2i (tn_in (nI d) 0 255))] σ _ _
        refine ex_if_eq (q := 48) (q2 := 40) dX8_feed_37 rfl rfl (fun hh => absurd hh (b2i_n0.mpr (cd))) (fun _ => ?_)
        refine ex_iload dX8_feed_40 rfl rfl ?_
        refine ex_callS (rest := []) dX8_feed_42 rfl qp_7_84 rfl rfl rfl (Nat.le_of_ble_eq_true rfl) (c_isByte _ _) (Nat.le_of_ble_eq_true rfl) ?_
        show Ex qm_lay _ mX8_feed 45 [some (.ref 54), some (.int (nI q)), some (.int (nI a)), some (.int (nI b)), some (.int (nI c)), some (.int (nI d)), some (.int (nI e))] [.int (b2i (tn_in (nI e) 0 255))] σ _ _
        refine ex_if_ne (q := 51) (q2 := 48) dX8_feed_45 rfl rfl (fun _ => ?_) (fun hh => absurd (b2i_n0.mpr (ce)) hh)
        refine ex_aload_n dX8_feed_51 rfl rfl ?_
        refine ex_getR (b := 4) dX8_feed_52 rfl qp_7_29 rfl rfl ?_
        refine ex_getI (s := 8) (x := nI P.1) dX8_feed_55 rfl qp_7_81 rfl rfl (hC.2.2.1.1) ?_
        refine ex_iload_n dX8_feed_58 rfl rfl ?_
        refine ex_iadd (z := nI (P.1 + q)) dX8_feed_59 rfl (nI_add P.1 q) ?_
        refine ex_sipush (x := 160) dX8_feed_60 rfl rfl ?_
        refine ex_icmp_le (q := 69) (q2 := 66) dX8_feed_63 rfl rfl (fun hh => absurd hh (nI_ge (a := 160) (b := (P.1 + q)) (by omega) (by omega))) (fun _ => ?_)
        refine ex_bipush (x := (-4)) dX8_feed_66 rfl rfl ?_
        exact ex_iret dX8_feed_68 rfl rfl rfl
      · have h : MR σ T := hM.1
        refine Ok.of (ls := [some (.ref 55), some (.int (nI q)), some (.int (nI a)), some (.int (nI b)), some (.int (nI c)), some (.int (nI d)), some (.int (nI e)), none]) (Nat.le_of_ble_eq_true rfl) rfl ?_
        refine ex_iload_n dX9_feed_0 rfl rfl ?_
        refine ex_iconst (x := 1) dX9_feed_1 rfl rfl ?_
        refine ex_iconst (x := 5) dX9_feed_2 rfl rfl ?_
        refine ex_callS (rest := []) dX9_feed_3 rfl qp_8_81 rfl rfl rfl (Nat.le_of_ble_eq_true rfl) (k_in _ _ _ _) (Nat.le_of_ble_eq_true rfl) ?_
        show Ex qm_lay _ mX9_feed 6 [some (.ref 55), some (.int (nI q)), some (.int (nI a)), some (.int (nI b)), some (.int (nI c)), some (.int (nI d)), some (.int (nI e)), none] [.int (b2i (tn_in (nI q) 1 5))] σ _ _
        refine ex_if_eq (q := 47) (q2 := 9) dX9_feed_6 rfl rfl (fun hh => absurd hh (b2i_n0.mpr (c2))) (fun _ => ?_)
        refine ex_iload_n dX9_feed_9 rfl rfl ?_
        refine ex_callS (rest := []) dX9_feed_10 rfl qp_8_111 rfl rfl rfl (Nat.le_of_ble_eq_true rfl) (k_isByte _ _) (Nat.le_of_ble_eq_true rfl) ?_
        show Ex qm_lay _ mX9_feed 13 [some (.ref 55), some (.int (nI q)), some (.int (nI a)), some (.int (nI b)), some (.int (nI c)), some (.int (nI d)), some (.int (nI e)), none] [.int (b2i (tn_in (nI a) 0 255))] σ _ _
        refine ex_if_eq (q := 47) (q2 := 16) dX9_feed_13 rfl rfl (fun hh => absurd hh (b2i_n0.mpr (ca))) (fun _ => ?_)
        refine ex_iload_n dX9_feed_16 rfl rfl ?_
        refine ex_callS (rest := []) dX9_feed_17 rfl qp_8_111 rfl rfl rfl (Nat.le_of_ble_eq_true rfl) (k_isByte _ _) (Nat.le_of_ble_eq_true rfl) ?_
        show Ex qm_lay _ mX9_feed 20 [some (.ref 55), some (.int (nI q)), some (.int (nI a)), some (.int (nI b)), some (.int (nI c)), some (.int (nI d)), some (.int (nI e)), none] [.int (b2i (tn_in (nI b) 0 255))] σ _ _
        refine ex_if_eq (q := 47) (q2 := 23) dX9_feed_20 rfl rfl (fun hh => absurd hh (b2i_n0.mpr (cb))) (fun _ => ?_)
        refine ex_iload dX9_feed_23 rfl rfl ?_
        refine ex_callS (rest := []) dX9_feed_25 rfl qp_8_111 rfl rfl rfl (Nat.le_of_ble_eq_true rfl) (k_isByte _ _) (Nat.le_of_ble_eq_true rfl) ?_
        show Ex qm_lay _ mX9_feed 28 [some (.ref 55), some (.int (nI q)), some (.int (nI a)), some (.int (nI b)), some (.int (nI c)), some (.int (nI d)), some (.int (nI e)), none] [.int (b2i (tn_in (nI c) 0 255))] σ _ _
        refine ex_if_eq (q := 47) (q2 := 31) dX9_feed_28 rfl rfl (fun hh => absurd hh (b2i_n0.mpr (cc))) (fun _ => ?_)
        refine ex_iload dX9_feed_31 rfl rfl ?_
        refine ex_callS (rest := []) dX9_feed_33 rfl qp_8_111 rfl rfl rfl (Nat.le_of_ble_eq_true rfl) (k_isByte _ _) (Nat.le_of_ble_eq_true rfl) ?_
        show Ex qm_lay _ mX9_feed 36 [some (.ref 55), some (.int (nI q)), some (.int (nI a)), some (.int (nI b)), some (.int (nI c)), some (.int (nI d)), some (.int (nI e)), none] [.int (b2i (tn_in (nI d) 0 255))] σ _ _
        refine ex_if_eq (q := 47) (q2 := 39) dX9_feed_36 rfl rfl (fun hh => absurd hh (b2i_n0.mpr (cd))) (fun _ => ?_)
        refine ex_iload dX9_feed_39 rfl rfl ?_
        refine ex_callS (rest := []) dX9_feed_41 rfl qp_8_111 rfl rfl rfl (Nat.le_of_ble_eq_true rfl) (k_isByte _ _) (Nat.le_of_ble_eq_true rfl) ?_
        show Ex qm_lay _ mX9_feed 44 [some (.ref 55), some (.int (nI q)), some (.int (nI a)), some (.int (nI b)), some (.int (nI c)), some (.int (nI d)), some (.int (nI e)), none] [.int (b2i (tn_in (nI e) 0 255))] σ _ _
        refine ex_if_ne (q := 50) (q2 := 47) dX9_feed_44 rfl rfl (fun _ => ?_) (fun hh => absurd (b2i_n0.mpr (ce)) hh)
        refine ex_aload_n dX9_feed_50 rfl rfl ?_
        refine ex_getI (s := 29) (x := nI P.1) dX9_feed_51 rfl qp_8_70 rfl rfl (hM.2.2.1.1) ?_
        refine ex_iload_n dX9_feed_54 rfl rfl ?_
        refine ex_iadd (z := nI (P.1 + q)) dX9_feed_55 rfl (nI_add P.1 q) ?_
        refine ex_sipush (x := 160) dX9_feed_56 rfl rfl ?_
        refine ex_icmp_le (q := 65) (q2 := 62) dX9_feed_59 rfl rfl (fun hh => absurd hh (nI_ge (a := 160) (b := (P.1 + q)) (by omega) (by omega))) (fun _ => ?_)
        refine ex_bipush (x := (-4)) dX9_feed_62 rfl rfl ?_
        exact ex_iret dX9_feed_64 rfl rfl rfl
    · have hq6 : q = 1 ∨ q = 2 ∨ q = 3 ∨ q = 4 ∨ q = 5 := by omega
      rcases hq6 with rfl | rfl | rfl | rfl | rfl
      · refine J.u (.int (nI (P.1 + 1))) (T, X, (gt_add P a), Im, S) ⟨hT, hX, (gt_add_ok hP (by show P.1 < 160; omega) ha), hI, hS, hw⟩ (fun σ hC => ?_) (fun σ hM => ?_)
        · have h : TR σ 9 18 T := hC.1
          have hg : sm σ (qm_wI (qm_wF σ 3 (P.1) (nI a)) 8 (nI (P.1 + 1))) 8 9 3 4 := (((sm.rf σ 8 9 3 4).wF _ (by omega)).wI _ (by omega))
          refine ⟨_, ?_, CG.tape hX hC (PC.add hC.2.2.1 a) hg, hg.wid (by omega) (by omega)⟩
          refine Ok.of (ls := [some (.ref 54), some (.int 1), some (.int (nI a)), some (.int (nI b)), some (.int (nI c)), some (.int (nI d)), some (.int (nI e))]) (Nat.le_of_ble_eq_true rfl) rfl ?_
          refine ex_iload_n dX8_feed_0 rfl rfl ?_
          refine ex_iconst (x := 1) dX8_feed_1 rfl rfl ?_
          refine ex_icmp_lt (q := 48) (q2 := 5) dX8_feed_2 rfl rfl (fun hh => absurd hh (by decide)) (fun _ => ?_)
          refine ex_iload_n dX8_feed_5 rfl rfl ?_
          refine ex_iconst (x := 5) dX8_feed_6 rfl rfl ?_
          refine ex_icmp_gt (q := 48) (q2 := 10) dX8_feed_7 rfl rfl (fun hh => absurd hh (by decide)) (fun _ => ?_)
          refine ex_iload_n dX8_feed_10 rfl rfl ?_
          refine ex_callS (rest := []) dX8_feed_11 rfl qp_7_84 rfl rfl rfl (Nat.le_of_ble_eq_true rfl) (c_isByte _ _) (Nat.le_of_ble_eq_true rfl) ?_
          show Ex qm_lay _ mX8_feed 14 [some (.ref 54), some (.int 1), some (.int (nI a)), some (.int (nI b)), some (.int (nI c)), some (.int (nI d)), some (.int (nI e))] [.int (b2i (tn_in (nI a) 0 255))] σ _ _
          refine ex_if_eq (q := 48) (q2 := 17) dX8_feed_14 rfl rfl (fun hh => absurd hh (b2i_n0.mpr (ca))) (fun _ => ?_)
          refine ex_iload_n dX8_feed_17 rfl rfl ?_
          refine ex_callS (rest := []) dX8_feed_18 rfl qp_7_84 rfl rfl rfl (Nat.le_of_ble_eq_true rfl) (c_isByte _ _) (Nat.le_of_ble_eq_true rfl) ?_
          show Ex qm_lay _ mX8_feed 21 [some (.ref 54), some (.int 1), some (.int (nI a)), some (.int (nI b)), some (.int (nI c)), some (.int (nI d)), some (.int (nI e))] [.int (b2i (tn_in (nI b) 0 255))] σ _ _
          refine ex_if_eq (q := 48) (q2 := 24) dX8_feed_21 rfl rfl (fun hh => absurd hh (b2i_n0.mpr (cb))) (fun _ => ?_)
          refine ex_iload dX8_feed_24 rfl rfl ?_
          refine ex_callS (rest := []) dX8_feed_26 rfl qp_7_84 rfl rfl rfl (Nat.le_of_ble_eq_true rfl) (c_isByte _ _) (Nat.le_of_ble_eq_true rfl) ?_
          show Ex qm_lay _ mX8_feed 29 [some (.ref 54), some (.int 1), some (.int (nI a)), some (.int (nI b)), some (.int (nI c)), some (.int (nI d)), some (.int (nI e))] [.int (b2i (tn_in (nI c) 0 255))] σ _ _
          refine ex_if_eq (q := 48) (q2 := 32) dX8_feed_29 rfl rfl (fun hh => absurd hh (b2i_n0.mpr (cc))) (fun _ => ?_)
          refine ex_iload dX8_feed_32 rfl rfl ?_
          refine ex_callS (rest := []) dX8_feed_34 rfl qp_7_84 rfl rfl rfl (Nat.le_of_ble_eq_true rfl) (c_isByte _ _) (Nat.le_of_ble_eq_true rfl) ?_
          show Ex qm_lay _ mX8_feed 37 [some (.ref 54), some (.int 1), some (.int (nI a)), some (.int (nI b)), some (.int (nI c)), some (.int (nI d)), some (.int (nI e))] [.int (b2i (tn_in (nI d) 0 255))] σ _ _
          refine ex_if_eq (q := 48) (q2 := 40) dX8_feed_37 rfl rfl (fun hh => absurd hh (b2i_n0.mpr (cd))) (fun _ => ?_)
          refine ex_iload dX8_feed_40 rfl rfl ?_
          refine ex_callS (rest := []) dX8_feed_42 rfl qp_7_84 rfl rfl rfl (Nat.le_of_ble_eq_true rfl) (c_isByte _ _) (Nat.le_of_ble_eq_true rfl) ?_
          show Ex qm_lay _ mX8_feed 45 [some (.ref 54), some (.int 1), some (.int (nI a)), some (.int (nI b)), some (.int (nI c)), some (.int (nI d)), some (.int (nI e))] [.int (b2i (tn_in (nI e) 0 255))] σ _ _
          refine ex_if_ne (q := 51) (q2 := 48) dX8_feed_45 rfl rfl (fun _ => ?_) (fun hh => absurd (b2i_n0.mpr (ce)) hh)
          refine ex_aload_n dX8_feed_51 rfl rfl ?_
          refine ex_getR (b := 4) dX8_feed_52 rfl qp_7_29 rfl rfl ?_
          refine ex_getI (s := 8) (x := nI P.1) dX8_feed_55 rfl qp_7_81 rfl rfl (hC.2.2.1.1) ?_
          refine ex_iload_n dX8_feed_58 rfl rfl ?_
          refine ex_iadd (z := nI (P.1 + 1)) dX8_feed_59 rfl (nI_add P.1 1) ?_
          refine ex_sipush (x := 160) dX8_feed_60 rfl rfl ?_
          refine ex_icmp_le (q := 69) (q2 := 66) dX8_feed_63 rfl rfl (fun _ => ?_) (fun hh => absurd (nI_le (a := (P.1 + 1)) (b := 160) (by omega) (by omega)) hh)
          refine ex_aload_n dX8_feed_69 rfl rfl ?_
          refine ex_getR (b := 4) dX8_feed_70 rfl qp_7_29 rfl rfl ?_
          refine ex_iload_n dX8_feed_73 rfl rfl ?_
          refine ex_callV (a := 4) (rest := []) dX8_feed_74 rfl qp_7_88 rfl rfl rfl rfl rfl (Nat.le_of_ble_eq_true rfl) (c_addByte (ext := qm_layR) (n := P.1) hC.2.2.1.1 (by omega) a) (Nat.le_of_ble_eq_true rfl) ?_
          show Ex qm_lay _ mX8_feed 77 [some (.ref 54), some (.int 1), some (.int (nI a)), some (.int (nI b)), some (.int (nI c)), some (.int (nI d)), some (.int (nI e))] [] (qm_wI (qm_wF σ 3 P.1 (nI a)) 8 (nI (P.1 + 1))) _ _
          refine ex_iload_n dX8_feed_77 rfl rfl ?_
          refine ex_iconst (x := 1) dX8_feed_78 rfl rfl ?_
          refine ex_icmp_le (q := 90) (q2 := 82) dX8_feed_79 rfl rfl (fun _ => ?_) (fun hh => absurd (by decide) hh)
          refine ex_iload_n dX8_feed_90 rfl rfl ?_
          refine ex_iconst (x := 2) dX8_feed_91 rfl rfl ?_
          refine ex_icmp_le (q := 104) (q2 := 95) dX8_feed_92 rfl rfl (fun _ => ?_) (fun hh => absurd (by decide) hh)
          refine ex_iload_n dX8_feed_104 rfl rfl ?_
          refine ex_iconst (x := 3) dX8_feed_105 rfl rfl ?_
          refine ex_icmp_le (q := 118) (q2 := 109) dX8_feed_106 rfl rfl (fun _ => ?_) (fun hh => absurd (by decide) hh)
          refine ex_iload_n dX8_feed_118 rfl rfl ?_
          refine ex_iconst (x := 4) dX8_feed_119 rfl rfl ?_
          refine ex_icmp_le (q := 132) (q2 := 123) dX8_feed_120 rfl rfl (fun _ => ?_) (fun hh => absurd (by decide) hh)
          refine ex_aload_n dX8_feed_132 rfl rfl ?_
          refine ex_getR (b := 4) dX8_feed_133 rfl qp_7_29 rfl rfl ?_
          refine ex_getI (s := 8) (x := nI (P.1 + 1)) dX8_feed_136 rfl qp_7_81 rfl rfl (rfl) ?_
          exact ex_iret dX8_feed_139 rfl rfl rfl
        · have h : MR σ T := hM.1
          have hg : sm σ (qm_wI (qm_wF σ 47 (P.1) (nI a)) 29 (nI (P.1 + 1))) 29 30 47 48 := (((sm.rf σ 29 30 47 48).wF _ (by omega)).wI _ (by omega))
          refine ⟨_, ?_, MG.tape hM (PM.add hM.2.2.1 a) hg, hg.wid (by omega) (by omega)⟩
          refine Ok.of (ls := [some (.ref 55), some (.int 1), some (.int (nI a)), some (.int (nI b)), some (.int (nI c)), some (.int (nI d)), some (.int (nI e)), none]) (Nat.le_of_ble_eq_true rfl) rfl ?_
          refine ex_iload_n dX9_feed_0 rfl rfl ?_
          refine ex_iconst (x := 1) dX9_feed_1 rfl rfl ?_
          refine ex_iconst (x := 5) dX9_feed_2 rfl rfl ?_
          refine ex_callS (rest := []) dX9_feed_3 rfl qp_8_81 rfl rfl rfl (Nat.le_of_ble_eq_true rfl) (k_in _ _ _ _) (Nat.le_of_ble_eq_true rfl) ?_
          show Ex qm_lay _ mX9_feed 6 [some (.ref 55), some (.int 1), some (.int (nI a)), some (.int (nI b)), some (.int (nI c)), some (.int (nI d)), some (.int (nI e)), none] [.int (b2i (tn_in 1 1 5))] σ _ _
          refine ex_if_eq (q := 47) (q2 := 9) dX9_feed_6 rfl rfl (fun hh => absurd hh (b2i_n0.mpr (c2))) (fun _ => ?_)
          refine ex_iload_n dX9_feed_9 rfl rfl ?_
          refine ex_callS (rest := []) dX9_feed_10 rfl qp_8_111 rfl rfl rfl (Nat.le_of_ble_eq_true rfl) (k_isByte _ _) (Nat.le_of_ble_eq_true rfl) ?_
          show Ex qm_lay _ mX9_feed 13 [some (.ref 55), some (.int 1), some (.int (nI a)), some (.int (nI b)), some (.int (nI c)), some (.int (nI d)), some (.int (nI e)), none] [.int (b2i (tn_in (nI a) 0 255))] σ _ _
          refine ex_if_eq (q := 47) (q2 := 16) dX9_feed_13 rfl rfl (fun hh => absurd hh (b2i_n0.mpr (ca))) (fun _ => ?_)
          refine ex_iload_n dX9_feed_16 rfl rfl ?_
          refine ex_callS (rest := []) dX9_feed_17 rfl qp_8_111 rfl rfl rfl (Nat.le_of_ble_eq_true rfl) (k_isByte _ _) (Nat.le_of_ble_eq_true rfl) ?_
          show Ex qm_lay _ mX9_feed 20 [some (.ref 55), some (.int 1), some (.int (nI a)), some (.int (nI b)), some (.int (nI c)), some (.int (nI d)), some (.int (nI e)), none] [.int (b2i (tn_in (nI b) 0 255))] σ _ _
          refine ex_if_eq (q := 47) (q2 := 23) dX9_feed_20 rfl rfl (fun hh => absurd hh (b2i_n0.mpr (cb))) (fun _ => ?_)
          refine ex_iload dX9_feed_23 rfl rfl ?_
          refine ex_callS (rest := []) dX9_feed_25 rfl qp_8_111 rfl rfl rfl (Nat.le_of_ble_eq_true rfl) (k_isByte _ _) (Nat.le_of_ble_eq_true rfl) ?_
          show Ex qm_lay _ mX9_feed 28 [some (.ref 55), some (.int 1), some (.int (nI a)), some (.int (nI b)), some (.int (nI c)), some (.int (nI d)), some (.int (nI e)), none] [.int (b2i (tn_in (nI c) 0 255))] σ _ _
          refine ex_if_eq (q := 47) (q2 := 31) dX9_feed_28 rfl rfl (fun hh => absurd hh (b2i_n0.mpr (cc))) (fun _ => ?_)
          refine ex_iload dX9_feed_31 rfl rfl ?_
          refine ex_callS (rest := []) dX9_feed_33 rfl qp_8_111 rfl rfl rfl (Nat.le_of_ble_eq_true rfl) (k_isByte _ _) (Nat.le_of_ble_eq_true rfl) ?_
          show Ex qm_lay _ mX9_feed 36 [some (.ref 55), some (.int 1), some (.int (nI a)), some (.int (nI b)), some (.int (nI c)), some (.int (nI d)), some (.int (nI e)), none] [.int (b2i (tn_in (nI d) 0 255))] σ _ _
          refine ex_if_eq (q := 47) (q2 := 39) dX9_feed_36 rfl rfl (fun hh => absurd hh (b2i_n0.mpr (cd))) (fun _ => ?_)
          refine ex_iload dX9_feed_39 rfl rfl ?_
          refine ex_callS (rest := []) dX9_feed_41 rfl qp_8_111 rfl rfl rfl (Nat.le_of_ble_eq_true rfl) (k_isByte _ _) (Nat.le_of_ble_eq_true rfl) ?_
          show Ex qm_lay _ mX9_feed 44 [some (.ref 55), some (.int 1), some (.int (nI a)), some (.int (nI b)), some (.int (nI c)), some (.int (nI d)), some (.int (nI e)), none] [.int (b2i (tn_in (nI e) 0 255))] σ _ _
          refine ex_if_ne (q := 50) (q2 := 47) dX9_feed_44 rfl rfl (fun _ => ?_) (fun hh => absurd (b2i_n0.mpr (ce)) hh)
          refine ex_aload_n dX9_feed_50 rfl rfl ?_
          refine ex_getI (s := 29) (x := nI P.1) dX9_feed_51 rfl qp_8_70 rfl rfl (hM.2.2.1.1) ?_
          refine ex_iload_n dX9_feed_54 rfl rfl ?_
          refine ex_iadd (z := nI (P.1 + 1)) dX9_feed_55 rfl (nI_add P.1 1) ?_
          refine ex_sipush (x := 160) dX9_feed_56 rfl rfl ?_
          refine ex_icmp_le (q := 65) (q2 := 62) dX9_feed_59 rfl rfl (fun _ => ?_) (fun hh => absurd (nI_le (a := (P.1 + 1)) (b := 160) (by omega) (by omega)) hh)
          refine ex_iconst (x := 0) dX9_feed_65 rfl rfl ?_
          refine ex_istore (ls' := [some (.ref 55), some (.int 1), some (.int (nI a)), some (.int (nI b)), some (.int (nI c)), some (.int (nI d)), some (.int (nI e)), some (.int 0)]) dX9_feed_66 rfl (Nat.le_of_ble_eq_true rfl) rfl rfl ?_
          refine ex_iload dX9_feed_68 rfl rfl ?_
          refine ex_iload_n dX9_feed_70 rfl rfl ?_
          refine ex_icmp_ge (q := 142) (q2 := 74) dX9_feed_71 rfl rfl (fun hh => absurd hh (by decide)) (fun _ => ?_)
          refine ex_aload_n dX9_feed_74 rfl rfl ?_
          refine ex_getR (b := 61) dX9_feed_75 rfl qp_8_25 rfl rfl ?_
          refine ex_aload_n dX9_feed_78 rfl rfl ?_
          refine ex_getI (s := 29) (x := nI P.1) dX9_feed_79 rfl qp_8_70 rfl rfl (hM.2.2.1.1) ?_
          refine ex_iload dX9_feed_82 rfl rfl ?_
          refine ex_if_ne (q := 91) (q2 := 87) dX9_feed_84 rfl rfl (fun hh => absurd hh (by decide)) (fun _ => ?_)
          refine ex_iload_n dX9_feed_87 rfl rfl ?_
          refine ex_goto (q := 125) dX9_feed_88 rfl ?_
          refine ex_iastore (k := P.1) (σ' := qm_wF σ 47 P.1 (nI a)) dX9_feed_125 rfl rfl (rfl) (by omega) (by decide) rfl ?_
          refine ex_aload_n dX9_feed_126 rfl rfl ?_
          refine ex_dup dX9_feed_127 rfl rfl ?_
          refine ex_getI (s := 29) (x := nI P.1) dX9_feed_128 rfl qp_8_70 rfl rfl (hM.2.2.1.1) ?_
          refine ex_iconst (x := 1) dX9_feed_131 rfl rfl ?_
          refine ex_iadd (z := nI (P.1 + 1)) dX9_feed_132 rfl (nI_add P.1 1) ?_
          refine ex_put (σ' := qm_wI (qm_wF σ 47 P.1 (nI a)) 29 (nI (P.1 + 1))) dX9_feed_133 rfl qp_8_70 rfl rfl (Or.inl rfl) rfl ?_
          refine ex_iinc (y := 1) (ls' := [some (.ref 55), some (.int 1), some (.int (nI a)), some (.int (nI b)), some (.int (nI c)), some (.int (nI d)), some (.int (nI e)), some (.int 1)]) dX9_feed_136 rfl rfl rfl (rfl) rfl ?_
          refine ex_goto (q := 68) dX9_feed_139 rfl ?_
          refine ex_iload dX9_feed_68 rfl rfl ?_
          refine ex_iload_n dX9_feed_70 rfl rfl ?_
          refine ex_icmp_ge (q := 142) (q2 := 74) dX9_feed_71 rfl rfl (fun _ => ?_) (fun hh => absurd (by decide) hh)
          refine ex_aload_n dX9_feed_142 rfl rfl ?_
          refine ex_getI (s := 29) (x := nI (P.1 + 1)) dX9_feed_143 rfl qp_8_70 rfl rfl (rfl) ?_
          exact ex_iret dX9_feed_146 rfl rfl rfl
      · refine J.u (.int (nI (P.1 + 1 + 1))) (T, X, (gt_add (gt_add P a) b), Im, S) ⟨hT, hX, (gt_add_ok (gt_add_ok hP (by show P.1 < 160; omega) ha) (by show P.1 + 1 < 160; omega) hb), hI, hS, hw⟩ (fun σ hC => ?_) (fun σ hM => ?_)
        · have h : TR σ 9 18 T := hC.1
          have hg : sm σ (qm_wI (qm_wF (qm_wI (qm_wF σ 3 (P.1) (nI a)) 8 (nI (P.1 + 1))) 3 (P.1 + 1) (nI b)) 8 (nI (P.1 + 1 + 1))) 8 9 3 4 := (((((sm.rf σ 8 9 3 4).wF _ (by omega)).wI _ (by omega)).wF _ (by omega)).wI _ (by omega))
          refine ⟨_, ?_, CG.tape hX hC (PC.add (PC.add hC.2.2.1 a) b) hg, hg.wid (by omega) (by omega)⟩
          refine Ok.of (ls := [some (.ref 54), some (.int 2), some (.int (nI a)), some (.int (nI b)), some (.int (nI c)), some (.int (nI d)), some (.int (nI e))]) (Nat.le_of_ble_eq_true rfl) rfl ?_
          refine ex_iload_n dX8_feed_0 rfl rfl ?_
          refine ex_iconst (x := 1) dX8_feed_1 rfl rfl ?_
          refine ex_icmp_lt (q := 48) (q2 := 5) dX8_feed_2 rfl rfl (fun hh => absurd hh (by decide)) (fun _ => ?_)
          refine ex_iload_n dX8_feed_5 rfl rfl ?_
          refine ex_iconst (x := 5) dX8_feed_6 rfl rfl ?_
          refine ex_icmp_gt (q := 48) (q2 := 10) dX8_feed_7 rfl rfl (fun hh => absurd hh (by decide)) (fun _ => ?_)
          refine ex_iload_n dX8_feed_10 rfl rfl ?_
          refine ex_callS (rest := []) dX8_feed_11 rfl qp_7_84 rfl rfl rfl (Nat.le_of_ble_eq_true rfl) (c_isByte _ _) (Nat.le_of_ble_eq_true rfl) ?_
          show Ex qm_lay _ mX8_feed 14 [some (.ref 54), some (.int 2), some (.int (nI a)), some (.int (nI b)), some (.int (nI c)), some (.int (nI d)), some (.int (nI e))] [.int (b2i (tn_in (nI a) 0 255))] σ _ _
          refine ex_if_eq (q := 48) (q2 := 17) dX8_feed_14 rfl rfl (fun hh => absurd hh (b2i_n0.mpr (ca))) (fun _ => ?_)
          refine ex_iload_n dX8_feed_17 rfl rfl ?_
          refine ex_callS (rest := []) dX8_feed_18 rfl qp_7_84 rfl rfl rfl (Nat.le_of_ble_eq_true rfl) (c_isByte _ _) (Nat.le_of_ble_eq_true rfl) ?_
          show Ex qm_lay _ mX8_feed 21 [some (.ref 54), some (.int 2), some (.int (nI a)), some (.int (nI b)), some (.int (nI c)), some (.int (nI d)), some (.int (nI e))] [.int (b2i (tn_in (nI b) 0 255))] σ _ _
          refine ex_if_eq (q := 48) (q2 := 24) dX8_feed_21 rfl rfl (fun hh => absurd hh (b2i_n0.mpr (cb))) (fun _ => ?_)
          refine ex_iload dX8_feed_24 rfl rfl ?_
          refine ex_callS (rest := []) dX8_feed_26 rfl qp_7_84 rfl rfl rfl (Nat.le_of_ble_eq_true rfl) (c_isByte _ _) (Nat.le_of_ble_eq_true rfl) ?_
          show Ex qm_lay _ mX8_feed 29 [some (.ref 54), some (.int 2), some (.int (nI a)), some (.int (nI b)), some (.int (nI c)), some (.int (nI d)), some (.int (nI e))] [.int (b2i (tn_in (nI c) 0 255))] σ _ _
          refine ex_if_eq (q := 48) (q2 := 32) dX8_feed_29 rfl rfl (fun hh => absurd hh (b2i_n0.mpr (cc))) (fun _ => ?_)
          refine ex_iload dX8_feed_32 rfl rfl ?_
          refine ex_callS (rest := []) dX8_feed_34 rfl qp_7_84 rfl rfl rfl (Nat.le_of_ble_eq_true rfl) (c_isByte _ _) (Nat.le_of_ble_eq_true rfl) ?_
          show Ex qm_lay _ mX8_feed 37 [some (.ref 54), some (.int 2), some (.int (nI a)), some (.int (nI b)), some (.int (nI c)), some (.int (nI d)), some (.int (nI e))] [.int (b2i (tn_in (nI d) 0 255))] σ _ _
          refine ex_if_eq (q := 48) (q2 := 40) dX8_feed_37 rfl rfl (fun hh => absurd hh (b2i_n0.mpr (cd))) (fun _ => ?_)
          refine ex_iload dX8_feed_40 rfl rfl ?_
          refine ex_callS (rest := []) dX8_feed_42 rfl qp_7_84 rfl rfl rfl (Nat.le_of_ble_eq_true rfl) (c_isByte _ _) (Nat.le_of_ble_eq_true rfl) ?_
          show Ex qm_lay _ mX8_feed 45 [some (.ref 54), some (.int 2), some (.int (nI a)), some (.int (nI b)), some (.int (nI c)), some (.int (nI d)), some (.int (nI e))] [.int (b2i (tn_in (nI e) 0 255))] σ _ _
          refine ex_if_ne (q := 51) (q2 := 48) dX8_feed_45 rfl rfl (fun _ => ?_) (fun hh => absurd (b2i_n0.mpr (ce)) hh)
          refine ex_aload_n dX8_feed_51 rfl rfl ?_
          refine ex_getR (b := 4) dX8_feed_52 rfl qp_7_29 rfl rfl ?_
          refine ex_getI (s := 8) (x := nI P.1) dX8_feed_55 rfl qp_7_81 rfl rfl (hC.2.2.1.1) ?_
          refine ex_iload_n dX8_feed_58 rfl rfl ?_
          refine ex_iadd (z := nI (P.1 + 2)) dX8_feed_59 rfl (nI_add P.1 2) ?_
          refine ex_sipush (x := 160) dX8_feed_60 rfl rfl ?_
          refine ex_icmp_le (q := 69) (q2 := 66) dX8_feed_63 rfl rfl (fun _ => ?_) (fun hh => absurd (nI_le (a := (P.1 + 2)) (b := 160) (by omega) (by omega)) hh)
          refine ex_aload_n dX8_feed_69 rfl rfl ?_
          refine ex_getR (b := 4) dX8_feed_70 rfl qp_7_29 rfl rfl ?_
          refine ex_iload_n dX8_feed_73 rfl rfl ?_
          refine ex_callV (a := 4) (rest := []) dX8_feed_74 rfl qp_7_88 rfl rfl rfl rfl rfl (Nat.le_of_ble_eq_true rfl) (c_addByte (ext := qm_layR) (n := P.1) hC.2.2.1.1 (by omega) a) (Nat.le_of_ble_eq_true rfl) ?_
          show Ex qm_lay _ mX8_feed 77 [some (.ref 54), some (.int 2), some (.int (nI a)), some (.int (nI b)), some (.int (nI c)), some (.int (nI d)), some (.int (nI e))] [] (qm_wI (qm_wF σ 3 P.1 (nI a)) 8 (nI (P.1 + 1))) _ _
          refine ex_iload_n dX8_feed_77 rfl rfl ?_
          refine ex_iconst (x := 1) dX8_feed_78 rfl rfl ?_
          refine ex_icmp_le (q := 90) (q2 := 82) dX8_feed_79 rfl rfl (fun hh => absurd hh (by decide)) (fun _ => ?_)
          refine ex_aload_n dX8_feed_82 rfl rfl ?_
          refine ex_getR (b := 4) dX8_feed_83 rfl qp_7_29 rfl rfl ?_
          refine ex_iload_n dX8_feed_86 rfl rfl ?_
          refine ex_callV (a := 4) (rest := []) dX8_feed_87 rfl qp_7_88 rfl rfl rfl rfl rfl (Nat.le_of_ble_eq_true rfl) (c_addByte (ext := qm_layR) (n := P.1 + 1) rfl (by omega) b) (Nat.le_of_ble_eq_true rfl) ?_
          show Ex qm_lay _ mX8_feed 90 [some (.ref 54), some (.int 2), some (.int (nI a)), some (.int (nI b)), some (.int (nI c)), some (.int (nI d)), some (.int (nI e))] [] (qm_wI (qm_wF (qm_wI (qm_wF σ 3 P.1 (nI a)) 8 (nI (P.1 + 1))) 3 (P.1 + 1) (nI b)) 8 (nI ((P.1 + 1) + 1))) _ _
          refine ex_iload_n dX8_feed_90 rfl rfl ?_
          refine ex_iconst (x := 2) dX8_feed_91 rfl rfl ?_
          refine ex_icmp_le (q := 104) (q2 := 95) dX8_feed_92 rfl rfl (fun _ => ?_) (fun hh => absurd (by decide) hh)
          refine ex_iload_n dX8_feed_104 rfl rfl ?_
          refine ex_iconst (x := 3) dX8_feed_105 rfl rfl ?_
          refine ex_icmp_le (q := 118) (q2 := 109) dX8_feed_106 rfl rfl (fun _ => ?_) (fun hh => absurd (by decide) hh)
          refine ex_iload_n dX8_feed_118 rfl rfl ?_
          refine ex_iconst (x := 4) dX8_feed_119 rfl rfl ?_
          refine ex_icmp_le (q := 132) (q2 := 123) dX8_feed_120 rfl rfl (fun _ => ?_) (fun hh => absurd (by decide) hh)
          refine ex_aload_n dX8_feed_132 rfl rfl ?_
          refine ex_getR (b := 4) dX8_feed_133 rfl qp_7_29 rfl rfl ?_
          refine ex_getI (s := 8) (x := nI ((P.1 + 1) + 1)) dX8_feed_136 rfl qp_7_81 rfl rfl (rfl) ?_
          exact ex_iret dX8_feed_139 rfl rfl rfl
        · have h : MR σ T := hM.1
          have hg : sm σ (qm_wI (qm_wF (qm_wI (qm_wF σ 47 (P.1) (nI a)) 29 (nI (P.1 + 1))) 47 (P.1 + 1) (nI b)) 29 (nI (P.1 + 1 + 1))) 29 30 47 48 := (((((sm.rf σ 29 30 47 48).wF _ (by omega)).wI _ (by omega)).wF _ (by omega)).wI _ (by omega))
          refine ⟨_, ?_, MG.tape hM (PM.add (PM.add hM.2.2.1 a) b) hg, hg.wid (by omega) (by omega)⟩
          refine Ok.of (ls := [some (.ref 55), some (.int 2), some (.int (nI a)), some (.int (nI b)), some (.int (nI c)), some (.int (nI d)), some (.int (nI e)), none]) (Nat.le_of_ble_eq_true rfl) rfl ?_
          refine ex_iload_n dX9_feed_0 rfl rfl ?_
          refine ex_iconst (x := 1) dX9_feed_1 rfl rfl ?_
          refine ex_iconst (x := 5) dX9_feed_2 rfl rfl ?_
          refine ex_callS (rest := []) dX9_feed_3 rfl qp_8_81 rfl rfl rfl (Nat.le_of_ble_eq_true rfl) (k_in _ _ _ _) (Nat.le_of_ble_eq_true rfl) ?_
          show Ex qm_lay _ mX9_feed 6 [some (.ref 55), some (.int 2), some (.int (nI a)), some (.int (nI b)), some (.int (nI c)), some (.int (nI d)), some (.int (nI e)), none] [.int (b2i (tn_in 2 1 5))] σ _ _
          refine ex_if_eq (q := 47) (q2 := 9) dX9_feed_6 rfl rfl (fun hh => absurd hh (b2i_n0.mpr (c2))) (fun _ => ?_)
          refine ex_iload_n dX9_feed_9 rfl rfl ?_
          refine ex_callS (rest := []) dX9_feed_10 rfl qp_8_111 rfl rfl rfl (Nat.le_of_ble_eq_true rfl) (k_isByte _ _) (Nat.le_of_ble_eq_true rfl) ?_
          show Ex qm_lay _ mX9_feed 13 [some (.ref 55), some (.int 2), some (.int (nI a)), some (.int (nI b)), some (.int (nI c)), some (.int (nI d)), some (.int (nI e)), none] [.int (b2i (tn_in (nI a) 0 255))] σ _ _
          refine ex_if_eq (q := 47) (q2 := 16) dX9_feed_13 rfl rfl (fun hh => absurd hh (b2i_n0.mpr (ca))) (fun _ => ?_)
          refine ex_iload_n dX9_feed_16 rfl rfl ?_
          refine ex_callS (rest := []) dX9_feed_17 rfl qp_8_111 rfl rfl rfl (Nat.le_of_ble_eq_true rfl) (k_isByte _ _) (Nat.le_of_ble_eq_true rfl) ?_
          show Ex qm_lay _ mX9_feed 20 [some (.ref 55), some (.int 2), some (.int (nI a)), some (.int (nI b)), some (.int (nI c)), some (.int (nI d)), some (.int (nI e)), none] [.int (b2i (tn_in (nI b) 0 255))] σ _ _
          refine ex_if_eq (q := 47) (q2 := 23) dX9_feed_20 rfl rfl (fun hh => absurd hh (b2i_n0.mpr (cb))) (fun _ => ?_)
          refine ex_iload dX9_feed_23 rfl rfl ?_
          refine ex_callS (rest := []) dX9_feed_25 rfl qp_8_111 rfl rfl rfl (Nat.le_of_ble_eq_true rfl) (k_isByte _ _) (Nat.le_of_ble_eq_true rfl) ?_
          show Ex qm_lay _ mX9_feed 28 [some (.ref 55), some (.int 2), some (.int (nI a)), some (.int (nI b)), some (.int (nI c)), some (.int (nI d)), some (.int (nI e)), none] [.int (b2i (tn_in (nI c) 0 255))] σ _ _
          refine ex_if_eq (q := 47) (q2 := 31) dX9_feed_28 rfl rfl (fun hh => absurd hh (b2i_n0.mpr (cc))) (fun _ => ?_)
          refine ex_iload dX9_feed_31 rfl rfl ?_
          refine ex_callS (rest := []) dX9_feed_33 rfl qp_8_111 rfl rfl rfl (Nat.le_of_ble_eq_true rfl) (k_isByte _ _) (Nat.le_of_ble_eq_true rfl) ?_
          show Ex qm_lay _ mX9_feed 36 [some (.ref 55), some (.int 2), some (.int (nI a)), some (.int (nI b)), some (.int (nI c)), some (.int (nI d)), some (.int (nI e)), none] [.int (b2i (tn_in (nI d) 0 255))] σ _ _
          refine ex_if_eq (q := 47) (q2 := 39) dX9_feed_36 rfl rfl (fun hh => absurd hh (b2i_n0.mpr (cd))) (fun _ => ?_)
          refine ex_iload dX9_feed_39 rfl rfl ?_
          refine ex_callS (rest := []) dX9_feed_41 rfl qp_8_111 rfl rfl rfl (Nat.le_of_ble_eq_true rfl) (k_isByte _ _) (Nat.le_of_ble_eq_true rfl) ?_
          show Ex qm_lay _ mX9_feed 44 [some (.ref 55), some (.int 2), some (.int (nI a)), some (.int (nI b)), some (.int (nI c)), some (.int (nI d)), some (.int (nI e)), none] [.int (b2i (tn_in (nI e) 0 255))] σ _ _
          refine ex_if_ne (q := 50) (q2 := 47) dX9_feed_44 rfl rfl (fun _ => ?_) (fun hh => absurd (b2i_n0.mpr (ce)) hh)
          refine ex_aload_n dX9_feed_50 rfl rfl ?_
          refine ex_getI (s := 29) (x := nI P.1) dX9_feed_51 rfl qp_8_70 rfl rfl (hM.2.2.1.1) ?_
          refine ex_iload_n dX9_feed_54 rfl rfl ?_
          refine ex_iadd (z := nI (P.1 + 2)) dX9_feed_55 rfl (nI_add P.1 2) ?_
          refine ex_sipush (x := 160) dX9_feed_56 rfl rfl ?_
          refine ex_icmp_le (q := 65) (q2 := 62) dX9_feed_59 rfl rfl (fun _ => ?_) (fun hh => absurd (nI_le (a := (P.1 + 2)) (b := 160) (by omega) (by omega)) hh)
          refine ex_iconst (x := 0) dX9_feed_65 rfl rfl ?_
          refine ex_istore (ls' := [some (.ref 55), some (.int 2), some (.int (nI a)), some (.int (nI b)), some (.int (nI c)), some (.int (nI d)), some (.int (nI e)), some (.int 0)]) dX9_feed_66 rfl (Nat.le_of_ble_eq_true rfl) rfl rfl ?_
          refine ex_iload dX9_feed_68 rfl rfl ?_
          refine ex_iload_n dX9_feed_70 rfl rfl ?_
          refine ex_icmp_ge (q := 142) (q2 := 74) dX9_feed_71 rfl rfl (fun hh => absurd hh (by decide)) (fun _ => ?_)
          refine ex_aload_n dX9_feed_74 rfl rfl ?_
          refine ex_getR (b := 61) dX9_feed_75 rfl qp_8_25 rfl rfl ?_
          refine ex_aload_n dX9_feed_78 rfl rfl ?_
          refine ex_getI (s := 29) (x := nI P.1) dX9_feed_79 rfl qp_8_70 rfl rfl (hM.2.2.1.1) ?_
          refine ex_iload dX9_feed_82 rfl rfl ?_
          refine ex_if_ne (q := 91) (q2 := 87) dX9_feed_84 rfl rfl (fun hh => absurd hh (by decide)) (fun _ => ?_)
          refine ex_iload_n dX9_feed_87 rfl rfl ?_
          refine ex_goto (q := 125) dX9_feed_88 rfl ?_
          refine ex_iastore (k := P.1) (σ' := qm_wF σ 47 P.1 (nI a)) dX9_feed_125 rfl rfl (rfl) (by omega) (by decide) rfl ?_
          refine ex_aload_n dX9_feed_126 rfl rfl ?_
          refine ex_dup dX9_feed_127 rfl rfl ?_
          refine ex_getI (s := 29) (x := nI P.1) dX9_feed_128 rfl qp_8_70 rfl rfl (hM.2.2.1.1) ?_
          refine ex_iconst (x := 1) dX9_feed_131 rfl rfl ?_
          refine ex_iadd (z := nI (P.1 + 1)) dX9_feed_132 rfl (nI_add P.1 1) ?_
          refine ex_put (σ' := qm_wI (qm_wF σ 47 P.1 (nI a)) 29 (nI (P.1 + 1))) dX9_feed_133 rfl qp_8_70 rfl rfl (Or.inl rfl) rfl ?_
          refine ex_iinc (y := 1) (ls' := [some (.ref 55), some (.int 2), some (.int (nI a)), some (.int (nI b)), some (.int (nI c)), some (.int (nI d)), some (.int (nI e)), some (.int 1)]) dX9_feed_136 rfl rfl rfl (rfl) rfl ?_
          refine ex_goto (q := 68) dX9_feed_139 rfl ?_
          refine ex_iload dX9_feed_68 rfl rfl ?_
          refine ex_iload_n dX9_feed_70 rfl rfl ?_
          refine ex_icmp_ge (q := 142) (q2 := 74) dX9_feed_71 rfl rfl (fun hh => absurd hh (by decide)) (fun _ => ?_)
          refine ex_aload_n dX9_feed_74 rfl rfl ?_
          refine ex_getR (b := 61) dX9_feed_75 rfl qp_8_25 rfl rfl ?_
          refine ex_aload_n dX9_feed_78 rfl rfl ?_
          refine ex_getI (s := 29) (x := nI (P.1 + 1)) dX9_feed_79 rfl qp_8_70 rfl rfl (rfl) ?_
          refine ex_iload dX9_feed_82 rfl rfl ?_
          refine ex_if_ne (q := 91) (q2 := 87) dX9_feed_84 rfl rfl (fun _ => ?_) (fun hh => absurd (by decide) hh)
          refine ex_iload dX9_feed_91 rfl rfl ?_
          refine ex_iconst (x := 1) dX9_feed_93 rfl rfl ?_
          refine ex_icmp_ne (q := 101) (q2 := 97) dX9_feed_94 rfl rfl (fun hh => absurd hh (by decide)) (fun _ => ?_)
          refine ex_iload_n dX9_feed_97 rfl rfl ?_
          refine ex_goto (q := 125) dX9_feed_98 rfl ?_
          refine ex_iastore (k := P.1 + 1) (σ' := qm_wF (qm_wI (qm_wF σ 47 P.1 (nI a)) 29 (nI (P.1 + 1))) 47 (P.1 + 1) (nI b)) dX9_feed_125 rfl rfl (rfl) (by omega) (by decide) rfl ?_
          refine ex_aload_n dX9_feed_126 rfl rfl ?_
          refine ex_dup dX9_feed_127 rfl rfl ?_
          refine ex_getI (s := 29) (x := nI (P.1 + 1)) dX9_feed_128 rfl qp_8_70 rfl rfl (rfl) ?_
          refine ex_iconst (x := 1) dX9_feed_131 rfl rfl ?_
          refine ex_iadd (z := nI ((P.1 + 1) + 1)) dX9_feed_132 rfl (nI_add (P.1 + 1) 1) ?_
          refine ex_put (σ' := qm_wI (qm_wF (qm_wI (qm_wF σ 47 P.1 (nI a)) 29 (nI (P.1 + 1))) 47 (P.1 + 1) (nI b)) 29 (nI ((P.1 + 1) + 1))) dX9_feed_133 rfl qp_8_70 rfl rfl (Or.inl rfl) rfl ?_
          refine ex_iinc (y := 2) (ls' := [some (.ref 55), some (.int 2), some (.int (nI a)), some (.int (nI b)), some (.int (nI c)), some (.int (nI d)), some (.int (nI e)), some (.int 2)]) dX9_feed_136 rfl rfl rfl (rfl) rfl ?_
          refine ex_goto (q := 68) dX9_feed_139 rfl ?_
          refine ex_iload dX9_feed_68 rfl rfl ?_
          refine ex_iload_n dX9_feed_70 rfl rfl ?_
          refine ex_icmp_ge (q := 142) (q2 := 74) dX9_feed_71 rfl rfl (fun _ => ?_) (fun hh => absurd (by decide) hh)
          refine ex_aload_n dX9_feed_142 rfl rfl ?_
          refine ex_getI (s := 29) (x := nI ((P.1 + 1) + 1)) dX9_feed_143 rfl qp_8_70 rfl rfl (rfl) ?_
          exact ex_iret dX9_feed_146 rfl rfl rfl
      · refine J.u (.int (nI (P.1 + 1 + 1 + 1))) (T, X, (gt_add (gt_add (gt_add P a) b) c), Im, S) ⟨hT, hX, (gt_add_ok (gt_add_ok (gt_add_ok hP (by show P.1 < 160; omega) ha) (by show P.1 + 1 < 160; omega) hb) (by show P.1 + 1 + 1 < 160; omega) hc), hI, hS, hw⟩ (fun σ hC => ?_) (fun σ hM => ?_)
        · have h : TR σ 9 18 T := hC.1
          have hg : sm σ (qm_wI (qm_wF (qm_wI (qm_wF (qm_wI (qm_wF σ 3 (P.1) (nI a)) 8 (nI (P.1 + 1))) 3 (P.1 + 1) (nI b)) 8 (nI (P.1 + 1 + 1))) 3 (P.1 + 1 + 1) (nI c)) 8 (nI (P.1 + 1 + 1 + 1))) 8 9 3 4 := (((((((sm.rf σ 8 9 3 4).wF _ (by omega)).wI _ (by omega)).wF _ (by omega)).wI _ (by omega)).wF _ (by omega)).wI _ (by omega))
          refine ⟨_, ?_, CG.tape hX hC (PC.add (PC.add (PC.add hC.2.2.1 a) b) c) hg, hg.wid (by omega) (by omega)⟩
          refine Ok.of (ls := [some (.ref 54), some (.int 3), some (.int (nI a)), some (.int (nI b)), some (.int (nI c)), some (.int (nI d)), some (.int (nI e))]) (Nat.le_of_ble_eq_true rfl) rfl ?_
          refine ex_iload_n dX8_feed_0 rfl rfl ?_
          refine ex_iconst (x := 1) dX8_feed_1 rfl rfl ?_
          refine ex_icmp_lt (q := 48) (q2 := 5) dX8_feed_2 rfl rfl (fun hh => absurd hh (by decide)) (fun _ => ?_)
          refine ex_iload_n dX8_feed_5 rfl rfl ?_
          refine ex_iconst (x := 5) dX8_feed_6 rfl rfl ?_
          refine ex_icmp_gt (q := 48) (q2 := 10) dX8_feed_7 rfl rfl (fun hh => absurd hh (by decide)) (fun _ => ?_)
          refine ex_iload_n dX8_feed_10 rfl rfl ?_
          refine ex_callS (rest := []) dX8_feed_11 rfl qp_7_84 rfl rfl rfl (Nat.le_of_ble_eq_true rfl) (c_isByte _ _) (Nat.le_of_ble_eq_true rfl) ?_
          show Ex qm_lay _ mX8_feed 14 [some (.ref 54), some (.int 3), some (.int (nI a)), some (.int (nI b)), some (.int (nI c)), some (.int (nI d)), some (.int (nI e))] [.int (b2i (tn_in (nI a) 0 255))] σ _ _
          refine ex_if_eq (q := 48) (q2 := 17) dX8_feed_14 rfl rfl (fun hh => absurd hh (b2i_n0.mpr (ca))) (fun _ => ?_)
          refine ex_iload_n dX8_feed_17 rfl rfl ?_
          refine ex_callS (rest := []) dX8_feed_18 rfl qp_7_84 rfl rfl rfl (Nat.le_of_ble_eq_true rfl) (c_isByte _ _) (Nat.le_of_ble_eq_true rfl) ?_
          show Ex qm_lay _ mX8_feed 21 [some (.ref 54), some (.int 3), some (.int (nI a)), some (.int (nI b)), some (.int (nI c)), some (.int (nI d)), some (.int (nI e))] [.int (b2i (tn_in (nI b) 0 255))] σ _ _
          refine ex_if_eq (q := 48) (q2 := 24) dX8_feed_21 rfl rfl (fun hh => absurd hh (b2i_n0.mpr (cb))) (fun _ => ?_)
          refine ex_iload dX8_feed_24 rfl rfl ?_
          refine ex_callS (rest := []) dX8_feed_26 rfl qp_7_84 rfl rfl rfl (Nat.le_of_ble_eq_true rfl) (c_isByte _ _) (Nat.le_of_ble_eq_true rfl) ?_
          show Ex qm_lay _ mX8_feed 29 [some (.ref 54), some (.int 3), some (.int (nI a)), some (.int (nI b)), some (.int (nI c)), some (.int (nI d)), some (.int (nI e))] [.int (b2i (tn_in (nI c) 0 255))] σ _ _
          refine ex_if_eq (q := 48) (q2 := 32) dX8_feed_29 rfl rfl (fun hh => absurd hh (b2i_n0.mpr (cc))) (fun _ => ?_)
          refine ex_iload dX8_feed_32 rfl rfl ?_
          refine ex_callS (rest := []) dX8_feed_34 rfl qp_7_84 rfl rfl rfl (Nat.le_of_ble_eq_true rfl) (c_isByte _ _) (Nat.le_of_ble_eq_true rfl) ?_
          show Ex qm_lay _ mX8_feed 37 [some (.ref 54), some (.int 3), some (.int (nI a)), some (.int (nI b)), some (.int (nI c)), some (.int (nI d)), some (.int (nI e))] [.int (b2i (tn_in (nI d) 0 255))] σ _ _
          refine ex_if_eq (q := 48) (q2 := 40) dX8_feed_37 rfl rfl (fun hh => absurd hh (b2i_n0.mpr (cd))) (fun _ => ?_)
          refine ex_iload dX8_feed_40 rfl rfl ?_
          refine ex_callS (rest := []) dX8_feed_42 rfl qp_7_84 rfl rfl rfl (Nat.le_of_ble_eq_true rfl) (c_isByte _ _) (Nat.le_of_ble_eq_true rfl) ?_
          show Ex qm_lay _ mX8_feed 45 [some (.ref 54), some (.int 3), some (.int (nI a)), some (.int (nI b)), some (.int (nI c)), some (.int (nI d)), some (.int (nI e))] [.int (b2i (tn_in (nI e) 0 255))] σ _ _
          refine ex_if_ne (q := 51) (q2 := 48) dX8_feed_45 rfl rfl (fun _ => ?_) (fun hh => absurd (b2i_n0.mpr (ce)) hh)
          refine ex_aload_n dX8_feed_51 rfl rfl ?_
          refine ex_getR (b := 4) dX8_feed_52 rfl qp_7_29 rfl rfl ?_
          refine ex_getI (s := 8) (x := nI P.1) dX8_feed_55 rfl qp_7_81 rfl rfl (hC.2.2.1.1) ?_
          refine ex_iload_n dX8_feed_58 rfl rfl ?_
          refine ex_iadd (z := nI (P.1 + 3)) dX8_feed_59 rfl (nI_add P.1 3) ?_
          refine ex_sipush (x := 160) dX8_feed_60 rfl rfl ?_
          refine ex_icmp_le (q := 69) (q2 := 66) dX8_feed_63 rfl rfl (fun _ => ?_) (fun hh => absurd (nI_le (a := (P.1 + 3)) (b := 160) (by omega) (by omega)) hh)
          refine ex_aload_n dX8_feed_69 rfl rfl ?_
          refine ex_getR (b := 4) dX8_feed_70 rfl qp_7_29 rfl rfl ?_
          refine ex_iload_n dX8_feed_73 rfl rfl ?_
          refine ex_callV (a := 4) (rest := []) dX8_feed_74 rfl qp_7_88 rfl rfl rfl rfl rfl (Nat.le_of_ble_eq_true rfl) (c_addByte (ext := qm_layR) (n := P.1) hC.2.2.1.1 (by omega) a) (Nat.le_of_ble_eq_true rfl) ?_
          show Ex qm_lay _ mX8_feed 77 [some (.ref 54), some (.int 3), some (.int (nI a)), some (.int (nI b)), some (.int (nI c)), some (.int (nI d)), some (.int (nI e))] [] (qm_wI (qm_wF σ 3 P.1 (nI a)) 8 (nI (P.1 + 1))) _ _
          refine ex_iload_n dX8_feed_77 rfl rfl ?_
          refine ex_iconst (x := 1) dX8_feed_78 rfl rfl ?_
          refine ex_icmp_le (q := 90) (q2 := 82) dX8_feed_79 rfl rfl (fun hh => absurd hh (by decide)) (fun _ => ?_)
          refine ex_aload_n dX8_feed_82 rfl rfl ?_
          refine ex_getR (b := 4) dX8_feed_83 rfl qp_7_29 rfl rfl ?_
          refine ex_iload_n dX8_feed_86 rfl rfl ?_
          refine ex_callV (a := 4) (rest := []) dX8_feed_87 rfl qp_7_88 rfl rfl rfl rfl rfl (Nat.le_of_ble_eq_true rfl) (c_addByte (ext := qm_layR) (n := P.1 + 1) rfl (by omega) b) (Nat.le_of_ble_eq_true rfl) ?_
          show Ex qm_lay _ mX8_feed 90 [some (.ref 54), some (.int 3), some (.int (nI a)), some (.int (nI b)), some (.int (nI c)), some (.int (nI d)), some (.int (nI e))] [] (qm_wI (qm_wF (qm_wI (qm_wF σ 3 P.1 (nI a)) 8 (nI (P.1 + 1))) 3 (P.1 + 1) (nI b)) 8 (nI ((P.1 + 1) + 1))) _ _
          refine ex_iload_n dX8_feed_90 rfl rfl ?_
          refine ex_iconst (x := 2) dX8_feed_91 rfl rfl ?_
          refine ex_icmp_le (q := 104) (q2 := 95) dX8_feed_92 rfl rfl (fun hh => absurd hh (by decide)) (fun _ => ?_)
          refine ex_aload_n dX8_feed_95 rfl rfl ?_
          refine ex_getR (b := 4) dX8_feed_96 rfl qp_7_29 rfl rfl ?_
          refine ex_iload dX8_feed_99 rfl rfl ?_
          refine ex_callV (a := 4) (rest := []) dX8_feed_101 rfl qp_7_88 rfl rfl rfl rfl rfl (Nat.le_of_ble_eq_true rfl) (c_addByte (ext := qm_layR) (n := (P.1 + 1) + 1) rfl (by omega) c) (Nat.le_of_ble_eq_true rfl) ?_
          show Ex qm_lay _ mX8_feed 104 [some (.ref 54), some (.int 3), some (.int (nI a)), some (.int (nI b)), some (.int (nI c)), some (.int (nI d)), some (.int (nI e))] [] (qm_wI (qm_wF (qm_wI (qm_wF (qm_wI (qm_wF σ 3 P.1 (nI a)) 8 (nI (P.1 + 1))) 3 (P.1 + 1) (nI b)) 8 (nI ((P.1 + 1) + 1))) 3 ((P.1 + 1) + 1) (nI c)) 8 (nI (((P.1 + 1) + 1) + 1))) _ _
          refine ex_iload_n dX8_feed_104 rfl rfl ?_
          refine ex_iconst (x := 3) dX8_feed_105 rfl rfl ?_
          refine ex_icmp_le (q := 118) (q2 := 109) dX8_feed_106 rfl rfl (fun _ => ?_) (fun hh => absurd (by decide) hh)
          refine ex_iload_n dX8_feed_118 rfl rfl ?_
          refine ex_iconst (x := 4) dX8_feed_119 rfl rfl ?_
          refine ex_icmp_le (q := 132) (q2 := 123) dX8_feed_120 rfl rfl (fun _ => ?_) (fun hh => absurd (by decide) hh)
          refine ex_aload_n dX8_feed_132 rfl rfl ?_
          refine ex_getR (b := 4) dX8_feed_133 rfl qp_7_29 rfl rfl ?_
          refine ex_getI (s := 8) (x := nI (((P.1 + 1) + 1) + 1)) dX8_feed_136 rfl qp_7_81 rfl rfl (rfl) ?_
          exact ex_iret dX8_feed_139 rfl rfl rfl
        · have h : MR σ T := hM.1
          have hg : sm σ (qm_wI (qm_wF (qm_wI (qm_wF (qm_wI (qm_wF σ 47 (P.1) (nI a)) 29 (nI (P.1 + 1))) 47 (P.1 + 1) (nI b)) 29 (nI (P.1 + 1 + 1))) 47 (P.1 + 1 + 1) (nI c)) 29 (nI (P.1 + 1 + 1 + 1))) 29 30 47 48 := (((((((sm.rf σ 29 30 47 48).wF _ (by omega)).wI _ (by omega)).wF _ (by omega)).wI _ (by omega)).wF _ (by omega)).wI _ (by omega))
          refine ⟨_, ?_, MG.tape hM (PM.add (PM.add (PM.add hM.2.2.1 a) b) c) hg, hg.wid (by omega) (by omega)⟩
          refine Ok.of (ls := [some (.ref 55), some (.int 3), some (.int (nI a)), some (.int (nI b)), some (.int (nI c)), some (.int (nI d)), some (.int (nI e)), none]) (Nat.le_of_ble_eq_true rfl) rfl ?_
          refine ex_iload_n dX9_feed_0 rfl rfl ?_
          refine ex_iconst (x := 1) dX9_feed_1 rfl rfl ?_
          refine ex_iconst (x := 5) dX9_feed_2 rfl rfl ?_
          refine ex_callS (rest := []) dX9_feed_3 rfl qp_8_81 rfl rfl rfl (Nat.le_of_ble_eq_true rfl) (k_in _ _ _ _) (Nat.le_of_ble_eq_true rfl) ?_
          show Ex qm_lay _ mX9_feed 6 [some (.ref 55), some (.int 3), some (.int (nI a)), some (.int (nI b)), some (.int (nI c)), some (.int (nI d)), some (.int (nI e)), none] [.int (b2i (tn_in 3 1 5))] σ _ _
          refine ex_if_eq (q := 47) (q2 := 9) dX9_feed_6 rfl rfl (fun hh => absurd hh (b2i_n0.mpr (c2))) (fun _ => ?_)
          refine ex_iload_n dX9_feed_9 rfl rfl ?_
          refine ex_callS (rest := []) dX9_feed_10 rfl qp_8_111 rfl rfl rfl (Nat.le_of_ble_eq_true rfl) (k_isByte _ _) (Nat.le_of_ble_eq_true rfl) ?_
          show Ex qm_lay _ mX9_feed 13 [some (.ref 55), some (.int 3), some (.int (nI a)), some (.int (nI b)), some (.int (nI c)), some (.int (nI d)), some (.int (nI e)), none] [.int (b2i (tn_in (nI a) 0 255))] σ _ _
          refine ex_if_eq (q := 47) (q2 := 16) dX9_feed_13 rfl rfl (fun hh => absurd hh (b2i_n0.mpr (ca))) (fun _ => ?_)
          refine ex_iload_n dX9_feed_16 rfl rfl ?_
          refine ex_callS (rest := []) dX9_feed_17 rfl qp_8_111 rfl rfl rfl (Nat.le_of_ble_eq_true rfl) (k_isByte _ _) (Nat.le_of_ble_eq_true rfl) ?_
          show Ex qm_lay _ mX9_feed 20 [some (.ref 55), some (.int 3), some (.int (nI a)), some (.int (nI b)), some (.int (nI c)), some (.int (nI d)), some (.int (nI e)), none] [.int (b2i (tn_in (nI b) 0 255))] σ _ _
          refine ex_if_eq (q := 47) (q2 := 23) dX9_feed_20 rfl rfl (fun hh => absurd hh (b2i_n0.mpr (cb))) (fun _ => ?_)
          refine ex_iload dX9_feed_23 rfl rfl ?_
          refine ex_callS (rest := []) dX9_feed_25 rfl qp_8_111 rfl rfl rfl (Nat.le_of_ble_eq_true rfl) (k_isByte _ _) (Nat.le_of_ble_eq_true rfl) ?_
          show Ex qm_lay _ mX9_feed 28 [some (.ref 55), some (.int 3), some (.int (nI a)), some (.int (nI b)), some (.int (nI c)), some (.int (nI d)), some (.int (nI e)), none] [.int (b2i (tn_in (nI c) 0 255))] σ _ _
          refine ex_if_eq (q := 47) (q2 := 31) dX9_feed_28 rfl rfl (fun hh => absurd hh (b2i_n0.mpr (cc))) (fun _ => ?_)
          refine ex_iload dX9_feed_31 rfl rfl ?_
          refine ex_callS (rest := []) dX9_feed_33 rfl qp_8_111 rfl rfl rfl (Nat.le_of_ble_eq_true rfl) (k_isByte _ _) (Nat.le_of_ble_eq_true rfl) ?_
          show Ex qm_lay _ mX9_feed 36 [some (.ref 55), some (.int 3), some (.int (nI a)), some (.int (nI b)), some (.int (nI c)), some (.int (nI d)), some (.int (nI e)), none] [.int (b2i (tn_in (nI d) 0 255))] σ _ _
          refine ex_if_eq (q := 47) (q2 := 39) dX9_feed_36 rfl rfl (fun hh => absurd hh (b2i_n0.mpr (cd))) (fun _ => ?_)
          refine ex_iload dX9_feed_39 rfl rfl ?_
          refine ex_callS (rest := []) dX9_feed_41 rfl qp_8_111 rfl rfl rfl (Nat.le_of_ble_eq_true rfl) (k_isByte _ _) (Nat.le_of_ble_eq_true rfl) ?_
          show Ex qm_lay _ mX9_feed 44 [some (.ref 55), some (.int 3), some (.int (nI a)), some (.int (nI b)), some (.int (nI c)), some (.int (nI d)), some (.int (nI e)), none] [.int (b2i (tn_in (nI e) 0 255))] σ _ _
          refine ex_if_ne (q := 50) (q2 := 47) dX9_feed_44 rfl rfl (fun _ => ?_) (fun hh => absurd (b2i_n0.mpr (ce)) hh)
          refine ex_aload_n dX9_feed_50 rfl rfl ?_
          refine ex_getI (s := 29) (x := nI P.1) dX9_feed_51 rfl qp_8_70 rfl rfl (hM.2.2.1.1) ?_
          refine ex_iload_n dX9_feed_54 rfl rfl ?_
          refine ex_iadd (z := nI (P.1 + 3)) dX9_feed_55 rfl (nI_add P.1 3) ?_
          refine ex_sipush (x := 160) dX9_feed_56 rfl rfl ?_
          refine ex_icmp_le (q := 65) (q2 := 62) dX9_feed_59 rfl rfl (fun _ => ?_) (fun hh => absurd (nI_le (a := (P.1 + 3)) (b := 160) (by omega) (by omega)) hh)
          refine ex_iconst (x := 0) dX9_feed_65 rfl rfl ?_
          refine ex_istore (ls' := [some (.ref 55), some (.int 3), some (.int (nI a)), some (.int (nI b)), some (.int (nI c)), some (.int (nI d)), some (.int (nI e)), some (.int 0)]) dX9_feed_66 rfl (Nat.le_of_ble_eq_true rfl) rfl rfl ?_
          refine ex_iload dX9_feed_68 rfl rfl ?_
          refine ex_iload_n dX9_feed_70 rfl rfl ?_
          refine ex_icmp_ge (q := 142) (q2 := 74) dX9_feed_71 rfl rfl (fun hh => absurd hh (by decide)) (fun _ => ?_)
          refine ex_aload_n dX9_feed_74 rfl rfl ?_
          refine ex_getR (b := 61) dX9_feed_75 rfl qp_8_25 rfl rfl ?_
          refine ex_aload_n dX9_feed_78 rfl rfl ?_
          refine ex_getI (s := 29) (x := nI P.1) dX9_feed_79 rfl qp_8_70 rfl rfl (hM.2.2.1.1) ?_
          refine ex_iload dX9_feed_82 rfl rfl ?_
          refine ex_if_ne (q := 91) (q2 := 87) dX9_feed_84 rfl rfl (fun hh => absurd hh (by decide)) (fun _ => ?_)
          refine ex_iload_n dX9_feed_87 rfl rfl ?_
          refine ex_goto (q := 125) dX9_feed_88 rfl ?_
          refine ex_iastore (k := P.1) (σ' := qm_wF σ 47 P.1 (nI a)) dX9_feed_125 rfl rfl (rfl) (by omega) (by decide) rfl ?_
          refine ex_aload_n dX9_feed_126 rfl rfl ?_
          refine ex_dup dX9_feed_127 rfl rfl ?_
          refine ex_getI (s := 29) (x := nI P.1) dX9_feed_128 rfl qp_8_70 rfl rfl (hM.2.2.1.1) ?_
          refine ex_iconst (x := 1) dX9_feed_131 rfl rfl ?_
          refine ex_iadd (z := nI (P.1 + 1)) dX9_feed_132 rfl (nI_add P.1 1) ?_
          refine ex_put (σ' := qm_wI (qm_wF σ 47 P.1 (nI a)) 29 (nI (P.1 + 1))) dX9_feed_133 rfl qp_8_70 rfl rfl (Or.inl rfl) rfl ?_
          refine ex_iinc (y := 1) (ls' := [some (.ref 55), some (.int 3), some (.int (nI a)), some (.int (nI b)), some (.int (nI c)), some (.int (nI d)), some (.int (nI e)), some (.int 1)]) dX9_feed_136 rfl rfl rfl (rfl) rfl ?_
          refine ex_goto (q := 68) dX9_feed_139 rfl ?_
          refine ex_iload dX9_feed_68 rfl rfl ?_
          refine ex_iload_n dX9_feed_70 rfl rfl ?_
          refine ex_icmp_ge (q := 142) (q2 := 74) dX9_feed_71 rfl rfl (fun hh => absurd hh (by decide)) (fun _ => ?_)
          refine ex_aload_n dX9_feed_74 rfl rfl ?_
          refine ex_getR (b := 61) dX9_feed_75 rfl qp_8_25 rfl rfl ?_
          refine ex_aload_n dX9_feed_78 rfl rfl ?_
          refine ex_getI (s := 29) (x := nI (P.1 + 1)) dX9_feed_79 rfl qp_8_70 rfl rfl (rfl) ?_
          refine ex_iload dX9_feed_82 rfl rfl ?_
          refine ex_if_ne (q := 91) (q2 := 87) dX9_feed_84 rfl rfl (fun _ => ?_) (fun hh => absurd (by decide) hh)
          refine ex_iload dX9_feed_91 rfl rfl ?_
          refine ex_iconst (x := 1) dX9_feed_93 rfl rfl ?_
          refine ex_icmp_ne (q := 101) (q2 := 97) dX9_feed_94 rfl rfl (fun hh => absurd hh (by decide)) (fun _ => ?_)
          refine ex_iload_n dX9_feed_97 rfl rfl ?_
          refine ex_goto (q := 125) dX9_feed_98 rfl ?_
          refine ex_iastore (k := P.1 + 1) (σ' := qm_wF (qm_wI (qm_wF σ 47 P.1 (nI a)) 29 (nI (P.1 + 1))) 47 (P.1 + 1) (nI b)) dX9_feed_125 rfl rfl (rfl) (by omega) (by decide) rfl ?_
          refine ex_aload_n dX9_feed_126 rfl rfl ?_
          refine ex_dup dX9_feed_127 rfl rfl ?_
          refine ex_getI (s := 29) (x := nI (P.1 + 1)) dX9_feed_128 rfl qp_8_70 rfl rfl (rfl) ?_
          refine ex_iconst (x := 1) dX9_feed_131 rfl rfl ?_
          refine ex_iadd (z := nI ((P.1 + 1) + 1)) dX9_feed_132 rfl (nI_add (P.1 + 1) 1) ?_
          refine ex_put (σ' := qm_wI (qm_wF (qm_wI (qm_wF σ 47 P.1 (nI a)) 29 (nI (P.1 + 1))) 47 (P.1 + 1) (nI b)) 29 (nI ((P.1 + 1) + 1))) dX9_feed_133 rfl qp_8_70 rfl rfl (Or.inl rfl) rfl ?_
          refine ex_iinc (y := 2) (ls' := [some (.ref 55), some (.int 3), some (.int (nI a)), some (.int (nI b)), some (.int (nI c)), some (.int (nI d)), some (.int (nI e)), some (.int 2)]) dX9_feed_136 rfl rfl rfl (rfl) rfl ?_
          refine ex_goto (q := 68) dX9_feed_139 rfl ?_
          refine ex_iload dX9_feed_68 rfl rfl ?_
          refine ex_iload_n dX9_feed_70 rfl rfl ?_
          refine ex_icmp_ge (q := 142) (q2 := 74) dX9_feed_71 rfl rfl (fun hh => absurd hh (by decide)) (fun _ => ?_)
          refine ex_aload_n dX9_feed_74 rfl rfl ?_
          refine ex_getR (b := 61) dX9_feed_75 rfl qp_8_25 rfl rfl ?_
          refine ex_aload_n dX9_feed_78 rfl rfl ?_
          refine ex_getI (s := 29) (x := nI ((P.1 + 1) + 1)) dX9_feed_79 rfl qp_8_70 rfl rfl (rfl) ?_
          refine ex_iload dX9_feed_82 rfl rfl ?_
          refine ex_if_ne (q := 91) (q2 := 87) dX9_feed_84 rfl rfl (fun _ => ?_) (fun hh => absurd (by decide) hh)
          refine ex_iload dX9_feed_91 rfl rfl ?_
          refine ex_iconst (x := 1) dX9_feed_93 rfl rfl ?_
          refine ex_icmp_ne (q := 101) (q2 := 97) dX9_feed_94 rfl rfl (fun _ => ?_) (fun hh => absurd (by decide) hh)
          refine ex_iload dX9_feed_101 rfl rfl ?_
          refine ex_iconst (x := 2) dX9_feed_103 rfl rfl ?_
          refine ex_icmp_ne (q := 112) (q2 := 107) dX9_feed_104 rfl rfl (fun hh => absurd hh (by decide)) (fun _ => ?_)
          refine ex_iload dX9_feed_107 rfl rfl ?_
          refine ex_goto (q := 125) dX9_feed_109 rfl ?_
          refine ex_iastore (k := (P.1 + 1) + 1) (σ' := qm_wF (qm_wI (qm_wF (qm_wI (qm_wF σ 47 P.1 (nI a)) 29 (nI (P.1 + 1))) 47 (P.1 + 1) (nI b)) 29 (nI ((P.1 + 1) + 1))) 47 ((P.1 + 1) + 1) (nI c)) dX9_feed_125 rfl rfl (rfl) (by omega) (by decide) rfl ?_
          refine ex_aload_n dX9_feed_126 rfl rfl ?_
          refine ex_dup dX9_feed_127 rfl rfl ?_
          refine ex_getI (s := 29) (x := nI ((P.1 + 1) + 1)) dX9_feed_128 rfl qp_8_70 rfl rfl (rfl) ?_
          refine ex_iconst (x := 1) dX9_feed_131 rfl rfl ?_
          refine ex_iadd (z := nI (((P.1 + 1) + 1) + 1)) dX9_feed_132 rfl (nI_add ((P.1 + 1) + 1) 1) ?_
          refine ex_put (σ' := qm_wI (qm_wF (qm_wI (qm_wF (qm_wI (qm_wF σ 47 P.1 (nI a)) 29 (nI (P.1 + 1))) 47 (P.1 + 1) (nI b)) 29 (nI ((P.1 + 1) + 1))) 47 ((P.1 + 1) + 1) (nI c)) 29 (nI (((P.1 + 1) + 1) + 1))) dX9_feed_133 rfl qp_8_70 rfl rfl (Or.inl rfl) rfl ?_
          refine ex_iinc (y := 3) (ls' := [some (.ref 55), some (.int 3), some (.int (nI a)), some (.int (nI b)), some (.int (nI c)), some (.int (nI d)), some (.int (nI e)), some (.int 3)]) dX9_feed_136 rfl rfl rfl (rfl) rfl ?_
          refine ex_goto (q := 68) dX9_feed_139 rfl ?_
          refine ex_iload dX9_feed_68 rfl rfl ?_
          refine ex_iload_n dX9_feed_70 rfl rfl ?_
          refine ex_icmp_ge (q := 142) (q2 := 74) dX9_feed_71 rfl rfl (fun _ => ?_) (fun hh => absurd (by decide) hh)
          refine ex_aload_n dX9_feed_142 rfl rfl ?_
          refine ex_getI (s := 29) (x := nI (((P.1 + 1) + 1) + 1)) dX9_feed_143 rfl qp_8_70 rfl rfl (rfl) ?_
          exact ex_iret dX9_feed_146 rfl rfl rfl
      · refine J.u (.int (nI (P.1 + 1 + 1 + 1 + 1))) (T, X, (gt_add (gt_add (gt_add (gt_add P a) b) c) d), Im, S) ⟨hT, hX, (gt_add_ok (gt_add_ok (gt_add_ok (gt_add_ok hP (by show P.1 < 160; omega) ha) (by show P.1 + 1 < 160; omega) hb) (by show P.1 + 1 + 1 < 160; omega) hc) (by show P.1 + 1 + 1 + 1 < 160; omega) hd), hI, hS, hw⟩ (fun σ hC => ?_) (fun σ hM => ?_)
        · have h : TR σ 9 18 T := hC.1
          have hg : sm σ (qm_wI (qm_wF (qm_wI (qm_wF (qm_wI (qm_wF (qm_wI (qm_wF σ 3 (P.1) (nI a)) 8 (nI (P.1 + 1))) 3 (P.1 + 1) (nI b)) 8 (nI (P.1 + 1 + 1))) 3 (P.1 + 1 + 1) (nI c)) 8 (nI (P.1 + 1 + 1 + 1))) 3 (P.1 + 1 + 1 + 1) (nI d)) 8 (nI (P.1 + 1 + 1 + 1 + 1))) 8 9 3 4 := (((((((((sm.rf σ 8 9 3 4).wF _ (by omega)).wI _ (by omega)).wF _ (by omega)).wI _ (by omega)).wF _ (by omega)).wI _ (by omega)).wF _ (by omega)).wI _ (by omega))
          refine ⟨_, ?_, CG.tape hX hC (PC.add (PC.add (PC.add (PC.add hC.2.2.1 a) b) c) d) hg, hg.wid (by omega) (by omega)⟩
          refine Ok.of (ls := [some (.ref 54), some (.int 4), some (.int (nI a)), some (.int (nI b)), some (.int (nI c)), some (.int (nI d)), some (.int (nI e))]) (Nat.le_of_ble_eq_true rfl) rfl ?_
          refine ex_iload_n dX8_feed_0 rfl rfl ?_
          refine ex_iconst (x := 1) dX8_feed_1 rfl rfl ?_
          refine ex_icmp_lt (q := 48) (q2 := 5) dX8_feed_2 rfl rfl (fun hh => absurd hh (by decide)) (fun _ => ?_)
          refine ex_iload_n dX8_feed_5 rfl rfl ?_
          refine ex_iconst (x := 5) dX8_feed_6 rfl rfl ?_
          refine ex_icmp_gt (q := 48) (q2 := 10) dX8_feed_7 rfl rfl (fun hh => absurd hh (by decide)) (fun _ => ?_)
          refine ex_iload_n dX8_feed_10 rfl rfl ?_
          refine ex_callS (rest := []) dX8_feed_11 rfl qp_7_84 rfl rfl rfl (Nat.le_of_ble_eq_true rfl) (c_isByte _ _) (Nat.le_of_ble_eq_true rfl) ?_
          show Ex qm_lay _ mX8_feed 14 [some (.ref 54), some (.int 4), some (.int (nI a)), some (.int (nI b)), some (.int (nI c)), some (.int (nI d)), some (.int (nI e))] [.int (b2i (tn_in (nI a) 0 255))] σ _ _
          refine ex_if_eq (q := 48) (q2 := 17) dX8_feed_14 rfl rfl (fun hh => absurd hh (b2i_n0.mpr (ca))) (fun _ => ?_)
          refine ex_iload_n dX8_feed_17 rfl rfl ?_
          refine ex_callS (rest := []) dX8_feed_18 rfl qp_7_84 rfl rfl rfl (Nat.le_of_ble_eq_true rfl) (c_isByte _ _) (Nat.le_of_ble_eq_true rfl) ?_
          show Ex qm_lay _ mX8_feed 21 [some (.ref 54), some (.int 4), some (.int (nI a)), some (.int (nI b)), some (.int (nI c)), some (.int (nI d)), some (.int (nI e))] [.int (b2i (tn_in (nI b) 0 255))] σ _ _
          refine ex_if_eq (q := 48) (q2 := 24) dX8_feed_21 rfl rfl (fun hh => absurd hh (b2i_n0.mpr (cb))) (fun _ => ?_)
          refine ex_iload dX8_feed_24 rfl rfl ?_
          refine ex_callS (rest := []) dX8_feed_26 rfl qp_7_84 rfl rfl rfl (Nat.le_of_ble_eq_true rfl) (c_isByte _ _) (Nat.le_of_ble_eq_true rfl) ?_
          show Ex qm_lay _ mX8_feed 29 [some (.ref 54), some (.int 4), some (.int (nI a)), some (.int (nI b)), some (.int (nI c)), some (.int (nI d)), some (.int (nI e))] [.int (b2i (tn_in (nI c) 0 255))] σ _ _
          refine ex_if_eq (q := 48) (q2 := 32) dX8_feed_29 rfl rfl (fun hh => absurd hh (b2i_n0.mpr (cc))) (fun _ => ?_)
          refine ex_iload dX8_feed_32 rfl rfl ?_
          refine ex_callS (rest := []) dX8_feed_34 rfl qp_7_84 rfl rfl rfl (Nat.le_of_ble_eq_true rfl) (c_isByte _ _) (Nat.le_of_ble_eq_true rfl) ?_
          show Ex qm_lay _ mX8_feed 37 [some (.ref 54), some (.int 4), some (.int (nI a)), some (.int (nI b)), some (.int (nI c)), some (.int (nI d)), some (.int (nI e))] [.int (b2i (tn_in (nI d) 0 255))] σ _ _
          refine ex_if_eq (q := 48) (q2 := 40) dX8_feed_37 rfl rfl (fun hh => absurd hh (b2i_n0.mpr (cd))) (fun _ => ?_)
          refine ex_iload dX8_feed_40 rfl rfl ?_
          refine ex_callS (rest := []) dX8_feed_42 rfl qp_7_84 rfl rfl rfl (Nat.le_of_ble_eq_true rfl) (c_isByte _ _) (Nat.le_of_ble_eq_true rfl) ?_
          show Ex qm_lay _ mX8_feed 45 [some (.ref 54), some (.int 4), some (.int (nI a)), some (.int (nI b)), some (.int (nI c)), some (.int (nI d)), some (.int (nI e))] [.int (b2i (tn_in (nI e) 0 255))] σ _ _
          refine ex_if_ne (q := 51) (q2 := 48) dX8_feed_45 rfl rfl (fun _ => ?_) (fun hh => absurd (b2i_n0.mpr (ce)) hh)
          refine ex_aload_n dX8_feed_51 rfl rfl ?_
          refine ex_getR (b := 4) dX8_feed_52 rfl qp_7_29 rfl rfl ?_
          refine ex_getI (s := 8) (x := nI P.1) dX8_feed_55 rfl qp_7_81 rfl rfl (hC.2.2.1.1) ?_
          refine ex_iload_n dX8_feed_58 rfl rfl ?_
          refine ex_iadd (z := nI (P.1 + 4)) dX8_feed_59 rfl (nI_add P.1 4) ?_
          refine ex_sipush (x := 160) dX8_feed_60 rfl rfl ?_
          refine ex_icmp_le (q := 69) (q2 := 66) dX8_feed_63 rfl rfl (fun _ => ?_) (fun hh => absurd (nI_le (a := (P.1 + 4)) (b := 160) (by omega) (by omega)) hh)
          refine ex_aload_n dX8_feed_69 rfl rfl ?_
          refine ex_getR (b := 4) dX8_feed_70 rfl qp_7_29 rfl rfl ?_
          refine ex_iload_n dX8_feed_73 rfl rfl ?_
          refine ex_callV (a := 4) (rest := []) dX8_feed_74 rfl qp_7_88 rfl rfl rfl rfl rfl (Nat.le_of_ble_eq_true rfl) (c_addByte (ext := qm_layR) (n := P.1) hC.2.2.1.1 (by omega) a) (Nat.le_of_ble_eq_true rfl) ?_
          show Ex qm_lay _ mX8_feed 77 [some (.ref 54), some (.int 4), some (.int (nI a)), some (.int (nI b)), some (.int (nI c)), some (.int (nI d)), some (.int (nI e))] [] (qm_wI (qm_wF σ 3 P.1 (nI a)) 8 (nI (P.1 + 1))) _ _
          refine ex_iload_n dX8_feed_77 rfl rfl ?_
          refine ex_iconst (x := 1) dX8_feed_78 rfl rfl ?_
          refine ex_icmp_le (q := 90) (q2 := 82) dX8_feed_79 rfl rfl (fun hh => absurd hh (by decide)) (fun _ => ?_)
          refine ex_aload_n dX8_feed_82 rfl rfl ?_
          refine ex_getR (b := 4) dX8_feed_83 rfl qp_7_29 rfl rfl ?_
          refine ex_iload_n dX8_feed_86 rfl rfl ?_
          refine ex_callV (a := 4) (rest := []) dX8_feed_87 rfl qp_7_88 rfl rfl rfl rfl rfl (Nat.le_of_ble_eq_true rfl) (c_addByte (ext := qm_layR) (n := P.1 + 1) rfl (by omega) b) (Nat.le_of_ble_eq_true rfl) ?_
          show Ex qm_lay _ mX8_feed 90 [some (.ref 54), some (.int 4), some (.int (nI a)), some (.int (nI b)), some (.int (nI c)), some (.int (nI d)), some (.int (nI e))] [] (qm_wI (qm_wF (qm_wI (qm_wF σ 3 P.1 (nI a)) 8 (nI (P.1 + 1))) 3 (P.1 + 1) (nI b)) 8 (nI ((P.1 + 1) + 1))) _ _
          refine ex_iload_n dX8_feed_90 rfl rfl ?_
          refine ex_iconst (x := 2) dX8_feed_91 rfl rfl ?_
          refine ex_icmp_le (q := 104) (q2 := 95) dX8_feed_92 rfl rfl (fun hh => absurd hh (by decide)) (fun _ => ?_)
          refine ex_aload_n dX8_feed_95 rfl rfl ?_
          refine ex_getR (b := 4) dX8_feed_96 rfl qp_7_29 rfl rfl ?_
          refine ex_iload dX8_feed_99 rfl rfl ?_
          refine ex_callV (a := 4) (rest := []) dX8_feed_101 rfl qp_7_88 rfl rfl rfl rfl rfl (Nat.le_of_ble_eq_true rfl) (c_addByte (ext := qm_layR) (n := (P.1 + 1) + 1) rfl (by omega) c) (Nat.le_of_ble_eq_true rfl) ?_
          show Ex qm_lay _ mX8_feed 104 [some (.ref 54), some (.int 4), some (.int (nI a)), some (.int (nI b)), some (.int (nI c)), some (.int (nI d)), some (.int (nI e))] [] (qm_wI (qm_wF (qm_wI (qm_wF (qm_wI (qm_wF σ 3 P.1 (nI a)) 8 (nI (P.1 + 1))) 3 (P.1 + 1) (nI b)) 8 (nI ((P.1 + 1) + 1))) 3 ((P.1 + 1) + 1) (nI c)) 8 (nI (((P.1 + 1) + 1) + 1))) _ _
          refine ex_iload_n dX8_feed_104 rfl rfl ?_
          refine ex_iconst (x := 3) dX8_feed_105 rfl rfl ?_
          refine ex_icmp_le (q := 118) (q2 := 109) dX8_feed_106 rfl rfl (fun hh => absurd hh (by decide)) (fun _ => ?_)
          refine ex_aload_n dX8_feed_109 rfl rfl ?_
          refine ex_getR (b := 4) dX8_feed_110 rfl qp_7_29 rfl rfl ?_
          refine ex_iload dX8_feed_113 rfl rfl ?_
          refine ex_callV (a := 4) (rest := []) dX8_feed_115 rfl qp_7_88 rfl rfl rfl rfl rfl (Nat.le_of_ble_eq_true rfl) (c_addByte (ext := qm_layR) (n := ((P.1 + 1) + 1) + 1) rfl (by omega) d) (Nat.le_of_ble_eq_true rfl) ?_
          show Ex qm_lay _ mX8_feed 118 [some (.ref 54), some (.int 4), some (.int (nI a)), some (.int (nI b)), some (.int (nI c)), some (.int (nI d)), some (.int (nI e))] [] (qm_wI (qm_wF (qm_wI (qm_wF (qm_wI (qm_wF (qm_wI (qm_wF σ 3 P.1 (nI a)) 8 (nI (P.1 + 1))) 3 (P.1 + 1) (nI b)) 8 (nI ((P.1 + 1) + 1))) 3 ((P.1 + 1) + 1) (nI c)) 8 (nI (((P.1 + 1) + 1) + 1))) 3 (((P.1 + 1) + 1) + 1) (nI d)) 8 (nI ((((P.1 + 1) + 1) + 1) + 1))) _ _
          refine ex_iload_n dX8_feed_118 rfl rfl ?_
          refine ex_iconst (x := 4) dX8_feed_119 rfl rfl ?_
          refine ex_icmp_le (q := 132) (q2 := 123) dX8_feed_120 rfl rfl (fun _ => ?_) (fun hh => absurd (by decide) hh)
          refine ex_aload_n dX8_feed_132 rfl rfl ?_
          refine ex_getR (b := 4) dX8_feed_133 rfl qp_7_29 rfl rfl ?_
          refine ex_getI (s := 8) (x := nI ((((P.1 + 1) + 1) + 1) + 1)) dX8_feed_136 rfl qp_7_81 rfl rfl (rfl) ?_
          exact ex_iret dX8_feed_139 rfl rfl rfl
        · have h : MR σ T := hM.1
          have hg : sm σ (qm_wI (qm_wF (qm_wI (qm_wF (qm_wI (qm_wF (qm_wI (qm_wF σ 47 (P.1) (nI a)) 29 (nI (P.1 + 1))) 47 (P.1 + 1) (nI b)) 29 (nI (P.1 + 1 + 1))) 47 (P.1 + 1 + 1) (nI c)) 29 (nI (P.1 + 1 + 1 + 1))) 47 (P.1 + 1 + 1 + 1) (nI d)) 29 (nI (P.1 + 1 + 1 + 1 + 1))) 29 30 47 48 := (((((((((sm.rf σ 29 30 47 48).wF _ (by omega)).wI _ (by omega)).wF _ (by omega)).wI _ (by omega)).wF _ (by omega)).wI _ (by omega)).wF _ (by omega)).wI _ (by omega))
          refine ⟨_, ?_, MG.tape hM (PM.add (PM.add (PM.add (PM.add hM.2.2.1 a) b) c) d) hg, hg.wid (by omega) (by omega)⟩
          refine Ok.of (ls := [some (.ref 55), some (.int 4), some (.int (nI a)), some (.int (nI b)), some (.int (nI c)), some (.int (nI d)), some (.int (nI e)), none]) (Nat.le_of_ble_eq_true rfl) rfl ?_
          refine ex_iload_n dX9_feed_0 rfl rfl ?_
          refine ex_iconst (x := 1) dX9_feed_1 rfl rfl ?_
          refine ex_iconst (x := 5) dX9_feed_2 rfl rfl ?_
          refine ex_callS (rest := []) dX9_feed_3 rfl qp_8_81 rfl rfl rfl (Nat.le_of_ble_eq_true rfl) (k_in _ _ _ _) (Nat.le_of_ble_eq_true rfl) ?_
          show Ex qm_lay _ mX9_feed 6 [some (.ref 55), some (.int 4), some (.int (nI a)), some (.int (nI b)), some (.int (nI c)), some (.int (nI d)), some (.int (nI e)), none] [.int (b2i (tn_in 4 1 5))] σ _ _
          refine ex_if_eq (q := 47) (q2 := 9) dX9_feed_6 rfl rfl (fun hh => absurd hh (b2i_n0.mpr (c2))) (fun _ => ?_)
          refine ex_iload_n dX9_feed_9 rfl rfl ?_
          refine ex_callS (rest := []) dX9_feed_10 rfl qp_8_111 rfl rfl rfl (Nat.le_of_ble_eq_true rfl) (k_isByte _ _) (Nat.le_of_ble_eq_true rfl) ?_
          show Ex qm_lay _ mX9_feed 13 [some (.ref 55), some (.int 4), some (.int (nI a)), some (.int (nI b)), some (.int (nI c)), some (.int (nI d)), some (.int (nI e)), none] [.int (b2i (tn_in (nI a) 0 255))] σ _ _
          refine ex_if_eq (q := 47) (q2 := 16) dX9_feed_13 rfl rfl (fun hh => absurd hh (b2i_n0.mpr (ca))) (fun _ => ?_)
          refine ex_iload_n dX9_feed_16 rfl rfl ?_
          refine ex_callS (rest := []) dX9_feed_17 rfl qp_8_111 rfl rfl rfl (Nat.le_of_ble_eq_true rfl) (k_isByte _ _) (Nat.le_of_ble_eq_true rfl) ?_
          show Ex qm_lay _ mX9_feed 20 [some (.ref 55), some (.int 4), some (.int (nI a)), some (.int (nI b)), some (.int (nI c)), some (.int (nI d)), some (.int (nI e)), none] [.int (b2i (tn_in (nI b) 0 255))] σ _ _
          refine ex_if_eq (q := 47) (q2 := 23) dX9_feed_20 rfl rfl (fun hh => absurd hh (b2i_n0.mpr (cb))) (fun _ => ?_)
          refine ex_iload dX9_feed_23 rfl rfl ?_
          refine ex_callS (rest := []) dX9_feed_25 rfl qp_8_111 rfl rfl rfl (Nat.le_of_ble_eq_true rfl) (k_isByte _ _) (Nat.le_of_ble_eq_true rfl) ?_
          show Ex qm_lay _ mX9_feed 28 [some (.ref 55), some (.int 4), some (.int (nI a)), some (.int (nI b)), some (.int (nI c)), some (.int (nI d)), some (.int (nI e)), none] [.int (b2i (tn_in (nI c) 0 255))] σ _ _
          refine ex_if_eq (q := 47) (q2 := 31) dX9_feed_28 rfl rfl (fun hh => absurd hh (b2i_n0.mpr (cc))) (fun _ => ?_)
          refine ex_iload dX9_feed_31 rfl rfl ?_
          refine ex_callS (rest := []) dX9_feed_33 rfl qp_8_111 rfl rfl rfl (Nat.le_of_ble_eq_true rfl) (k_isByte _ _) (Nat.le_of_ble_eq_true rfl) ?_
          show Ex qm_lay _ mX9_feed 36 [some (.ref 55), some (.int 4), some (.int (nI a)), some (.int (nI b)), some (.int (nI c)), some (.int (nI d)), some (.int (nI e)), none] [.int (b2i (tn_in (nI d) 0 255))] σ _ _
          refine ex_if_eq (q := 47) (q2 := 39) dX9_feed_36 rfl rfl (fun hh => absurd hh (b2i_n0.mpr (cd))) (fun _ => ?_)
          refine ex_iload dX9_feed_39 rfl rfl ?_
          refine ex_callS (rest := []) dX9_feed_41 rfl qp_8_111 rfl rfl rfl (Nat.le_of_ble_eq_true rfl) (k_isByte _ _) (Nat.le_of_ble_eq_true rfl) ?_
          show Ex qm_lay _ mX9_feed 44 [some (.ref 55), some (.int 4), some (.int (nI a)), some (.int (nI b)), some (.int (nI c)), some (.int (nI d)), some (.int (nI e)), none] [.int (b2i (tn_in (nI e) 0 255))] σ _ _
          refine ex_if_ne (q := 50) (q2 := 47) dX9_feed_44 rfl rfl (fun _ => ?_) (fun hh => absurd (b2i_n0.mpr (ce)) hh)
          refine ex_aload_n dX9_feed_50 rfl rfl ?_
          refine ex_getI (s := 29) (x := nI P.1) dX9_feed_51 rfl qp_8_70 rfl rfl (hM.2.2.1.1) ?_
          refine ex_iload_n dX9_feed_54 rfl rfl ?_
          refine ex_iadd (z := nI (P.1 + 4)) dX9_feed_55 rfl (nI_add P.1 4) ?_
          refine ex_sipush (x := 160) dX9_feed_56 rfl rfl ?_
          refine ex_icmp_le (q := 65) (q2 := 62) dX9_feed_59 rfl rfl (fun _ => ?_) (fun hh => absurd (nI_le (a := (P.1 + 4)) (b := 160) (by omega) (by omega)) hh)
          refine ex_iconst (x := 0) dX9_feed_65 rfl rfl ?_
          refine ex_istore (ls' := [some (.ref 55), some (.int 4), some (.int (nI a)), some (.int (nI b)), some (.int (nI c)), some (.int (nI d)), some (.int (nI e)), some (.int 0)]) dX9_feed_66 rfl (Nat.le_of_ble_eq_true rfl) rfl rfl ?_
          refine ex_iload dX9_feed_68 rfl rfl ?_
          refine ex_iload_n dX9_feed_70 rfl rfl ?_
          refine ex_icmp_ge (q := 142) (q2 := 74) dX9_feed_71 rfl rfl (fun hh => absurd hh (by decide)) (fun _ => ?_)
          refine ex_aload_n dX9_feed_74 rfl rfl ?_
          refine ex_getR (b := 61) dX9_feed_75 rfl qp_8_25 rfl rfl ?_
          refine ex_aload_n dX9_feed_78 rfl rfl ?_
          refine ex_getI (s := 29) (x := nI P.1) dX9_feed_79 rfl qp_8_70 rfl rfl (hM.2.2.1.1) ?_
          refine ex_iload dX9_feed_82 rfl rfl ?_
          refine ex_if_ne (q := 91) (q2 := 87) dX9_feed_84 rfl rfl (fun hh => absurd hh (by decide)) (fun _ => ?_)
          refine ex_iload_n dX9_feed_87 rfl rfl ?_
          refine ex_goto (q := 125) dX9_feed_88 rfl ?_
          refine ex_iastore (k := P.1) (σ' := qm_wF σ 47 P.1 (nI a)) dX9_feed_125 rfl rfl (rfl) (by omega) (by decide) rfl ?_
          refine ex_aload_n dX9_feed_126 rfl rfl ?_
          refine ex_dup dX9_feed_127 rfl rfl ?_
          refine ex_getI (s := 29) (x := nI P.1) dX9_feed_128 rfl qp_8_70 rfl rfl (hM.2.2.1.1) ?_
          refine ex_iconst (x := 1) dX9_feed_131 rfl rfl ?_
          refine ex_iadd (z := nI (P.1 + 1)) dX9_feed_132 rfl (nI_add P.1 1) ?_
          refine ex_put (σ' := qm_wI (qm_wF σ 47 P.1 (nI a)) 29 (nI (P.1 + 1))) dX9_feed_133 rfl qp_8_70 rfl rfl (Or.inl rfl) rfl ?_
          refine ex_iinc (y := 1) (ls' := [some (.ref 55), some (.int 4), some (.int (nI a)), some (.int (nI b)), some (.int (nI c)), some (.int (nI d)), some (.int (nI e)), some (.int 1)]) dX9_feed_136 rfl rfl rfl (rfl) rfl ?_
          refine ex_goto (q := 68) dX9_feed_139 rfl ?_
          refine ex_iload dX9_feed_68 rfl rfl ?_
          refine ex_iload_n dX9_feed_70 rfl rfl ?_
          refine ex_icmp_ge (q := 142) (q2 := 74) dX9_feed_71 rfl rfl (fun hh => absurd hh (by decide)) (fun _ => ?_)
          refine ex_aload_n dX9_feed_74 rfl rfl ?_
          refine ex_getR (b := 61) dX9_feed_75 rfl qp_8_25 rfl rfl ?_
          refine ex_aload_n dX9_feed_78 rfl rfl ?_
          refine ex_getI (s := 29) (x := nI (P.1 + 1)) dX9_feed_79 rfl qp_8_70 rfl rfl (rfl) ?_
          refine ex_iload dX9_feed_82 rfl rfl ?_
          refine ex_if_ne (q := 91) (q2 := 87) dX9_feed_84 rfl rfl (fun _ => ?_) (fun hh => absurd (by decide) hh)
          refine ex_iload dX9_feed_91 rfl rfl ?_
          refine ex_iconst (x := 1) dX9_feed_93 rfl rfl ?_
          refine ex_icmp_ne (q := 101) (q2 := 97) dX9_feed_94 rfl rfl (fun hh => absurd hh (by decide)) (fun _ => ?_)
          refine ex_iload_n dX9_feed_97 rfl rfl ?_
          refine ex_goto (q := 125) dX9_feed_98 rfl ?_
          refine ex_iastore (k := P.1 + 1) (σ' := qm_wF (qm_wI (qm_wF σ 47 P.1 (nI a)) 29 (nI (P.1 + 1))) 47 (P.1 + 1) (nI b)) dX9_feed_125 rfl rfl (rfl) (by omega) (by decide) rfl ?_
          refine ex_aload_n dX9_feed_126 rfl rfl ?_
          refine ex_dup dX9_feed_127 rfl rfl ?_
          refine ex_getI (s := 29) (x := nI (P.1 + 1)) dX9_feed_128 rfl qp_8_70 rfl rfl (rfl) ?_
          refine ex_iconst (x := 1) dX9_feed_131 rfl rfl ?_
          refine ex_iadd (z := nI ((P.1 + 1) + 1)) dX9_feed_132 rfl (nI_add (P.1 + 1) 1) ?_
          refine ex_put (σ' := qm_wI (qm_wF (qm_wI (qm_wF σ 47 P.1 (nI a)) 29 (nI (P.1 + 1))) 47 (P.1 + 1) (nI b)) 29 (nI ((P.1 + 1) + 1))) dX9_feed_133 rfl qp_8_70 rfl rfl (Or.inl rfl) rfl ?_
          refine ex_iinc (y := 2) (ls' := [some (.ref 55), some (.int 4), some (.int (nI a)), some (.int (nI b)), some (.int (nI c)), some (.int (nI d)), some (.int (nI e)), some (.int 2)]) dX9_feed_136 rfl rfl rfl (rfl) rfl ?_
          refine ex_goto (q := 68) dX9_feed_139 rfl ?_
          refine ex_iload dX9_feed_68 rfl rfl ?_
          refine ex_iload_n dX9_feed_70 rfl rfl ?_
          refine ex_icmp_ge (q := 142) (q2 := 74) dX9_feed_71 rfl rfl (fun hh => absurd hh (by decide)) (fun _ => ?_)
          refine ex_aload_n dX9_feed_74 rfl rfl ?_
          refine ex_getR (b := 61) dX9_feed_75 rfl qp_8_25 rfl rfl ?_
          refine ex_aload_n dX9_feed_78 rfl rfl ?_
          refine ex_getI (s := 29) (x := nI ((P.1 + 1) + 1)) dX9_feed_79 rfl qp_8_70 rfl rfl (rfl) ?_
          refine ex_iload dX9_feed_82 rfl rfl ?_
          refine ex_if_ne (q := 91) (q2 := 87) dX9_feed_84 rfl rfl (fun _ => ?_) (fun hh => absurd (by decide) hh)
          refine ex_iload dX9_feed_91 rfl rfl ?_
          refine ex_iconst (x := 1) dX9_feed_93 rfl rfl ?_
          refine ex_icmp_ne (q := 101) (q2 := 97) dX9_feed_94 rfl rfl (fun _ => ?_) (fun hh => absurd (by decide) hh)
          refine ex_iload dX9_feed_101 rfl rfl ?_
          refine ex_iconst (x := 2) dX9_feed_103 rfl rfl ?_
          refine ex_icmp_ne (q := 112) (q2 := 107) dX9_feed_104 rfl rfl (fun hh => absurd hh (by decide)) (fun _ => ?_)
          refine ex_iload dX9_feed_107 rfl rfl ?_
          refine ex_goto (q := 125) dX9_feed_109 rfl ?_
          refine ex_iastore (k := (P.1 + 1) + 1) (σ' := qm_wF (qm_wI (qm_wF (qm_wI (qm_wF σ 47 P.1 (nI a)) 29 (nI (P.1 + 1))) 47 (P.1 + 1) (nI b)) 29 (nI ((P.1 + 1) + 1))) 47 ((P.1 + 1) + 1) (nI c)) dX9_feed_125 rfl rfl (rfl) (by omega) (by decide) rfl ?_
          refine ex_aload_n dX9_feed_126 rfl rfl ?_
          refine ex_dup dX9_feed_127 rfl rfl ?_
          refine ex_getI (s := 29) (x := nI ((P.1 + 1) + 1)) dX9_feed_128 rfl qp_8_70 rfl rfl (rfl) ?_
          refine ex_iconst (x := 1) dX9_feed_131 rfl rfl ?_
          refine ex_iadd (z := nI (((P.1 + 1) + 1) + 1)) dX9_feed_132 rfl (nI_add ((P.1 + 1) + 1) 1) ?_
          refine ex_put (σ' := qm_wI (qm_wF (qm_wI (qm_wF (qm_wI (qm_wF σ 47 P.1 (nI a)) 29 (nI (P.1 + 1))) 47 (P.1 + 1) (nI b)) 29 (nI ((P.1 + 1) + 1))) 47 ((P.1 + 1) + 1) (nI c)) 29 (nI (((P.1 + 1) + 1) + 1))) dX9_feed_133 rfl qp_8_70 rfl rfl (Or.inl rfl) rfl ?_
          refine ex_iinc (y := 3) (ls' := [some (.ref 55), some (.int 4), some (.int (nI a)), some (.int (nI b)), some (.int (nI c)), some (.int (nI d)), some (.int (nI e)), some (.int 3)]) dX9_feed_136 rfl rfl rfl (rfl) rfl ?_
          refine ex_goto (q := 68) dX9_feed_139 rfl ?_
          refine ex_iload dX9_feed_68 rfl rfl ?_
          refine ex_iload_n dX9_feed_70 rfl rfl ?_
          refine ex_icmp_ge (q := 142) (q2 := 74) dX9_feed_71 rfl rfl (fun hh => absurd hh (by decide)) (fun _ => ?_)
          refine ex_aload_n dX9_feed_74 rfl rfl ?_
          refine ex_getR (b := 61) dX9_feed_75 rfl qp_8_25 rfl rfl ?_
          refine ex_aload_n dX9_feed_78 rfl rfl ?_
          refine ex_getI (s := 29) (x := nI (((P.1 + 1) + 1) + 1)) dX9_feed_79 rfl qp_8_70 rfl rfl (rfl) ?_
          refine ex_iload dX9_feed_82 rfl rfl ?_
          refine ex_if_ne (q := 91) (q2 := 87) dX9_feed_84 rfl rfl (fun _ => ?_) (fun hh => absurd (by decide) hh)
          refine ex_iload dX9_feed_91 rfl rfl ?_
          refine ex_iconst (x := 1) dX9_feed_93 rfl rfl ?_
          refine ex_icmp_ne (q := 101) (q2 := 97) dX9_feed_94 rfl rfl (fun _ => ?_) (fun hh => absurd (by decide) hh)
          refine ex_iload dX9_feed_101 rfl rfl ?_
          refine ex_iconst (x := 2) dX9_feed_103 rfl rfl ?_
          refine ex_icmp_ne (q := 112) (q2 := 107) dX9_feed_104 rfl rfl (fun _ => ?_) (fun hh => absurd (by decide) hh)
          refine ex_iload dX9_feed_112 rfl rfl ?_
          refine ex_iconst (x := 3) dX9_feed_114 rfl rfl ?_
          refine ex_icmp_ne (q := 123) (q2 := 118) dX9_feed_115 rfl rfl (fun hh => absurd hh (by decide)) (fun _ => ?_)
          refine ex_iload dX9_feed_118 rfl rfl ?_
          refine ex_goto (q := 125) dX9_feed_120 rfl ?_
          refine ex_iastore (k := ((P.1 + 1) + 1) + 1) (σ' := qm_wF (qm_wI (qm_wF (qm_wI (qm_wF (qm_wI (qm_wF σ 47 P.1 (nI a)) 29 (nI (P.1 + 1))) 47 (P.1 + 1) (nI b)) 29 (nI ((P.1 + 1) + 1))) 47 ((P.1 + 1) + 1) (nI c)) 29 (nI (((P.1 + 1) + 1) + 1))) 47 (((P.1 + 1) + 1) + 1) (nI d)) dX9_feed_125 rfl rfl (rfl) (by omega) (by decide) rfl ?_
          refine ex_aload_n dX9_feed_126 rfl rfl ?_
          refine ex_dup dX9_feed_127 rfl rfl ?_
          refine ex_getI (s := 29) (x := nI (((P.1 + 1) + 1) + 1)) dX9_feed_128 rfl qp_8_70 rfl rfl (rfl) ?_
          refine ex_iconst (x := 1) dX9_feed_131 rfl rfl ?_
          refine ex_iadd (z := nI ((((P.1 + 1) + 1) + 1) + 1)) dX9_feed_132 rfl (nI_add (((P.1 + 1) + 1) + 1) 1) ?_
          refine ex_put (σ' := qm_wI (qm_wF (qm_wI (qm_wF (qm_wI (qm_wF (qm_wI (qm_wF σ 47 P.1 (nI a)) 29 (nI (P.1 + 1))) 47 (P.1 + 1) (nI b)) 29 (nI ((P.1 + 1) + 1))) 47 ((P.1 + 1) + 1) (nI c)) 29 (nI (((P.1 + 1) + 1) + 1))) 47 (((P.1 + 1) + 1) + 1) (nI d)) 29 (nI ((((P.1 + 1) + 1) + 1) + 1))) dX9_feed_133 rfl qp_8_70 rfl rfl (Or.inl rfl) rfl ?_
          refine ex_iinc (y := 4) (ls' := [some (.ref 55), some (.int 4), some (.int (nI a)), some (.int (nI b)), some (.int (nI c)), some (.int (nI d)), some (.int (nI e)), some (.int 4)]) dX9_feed_136 rfl rfl rfl (rfl) rfl ?_
          refine ex_goto (q := 68) dX9_feed_139 rfl ?_
          refine ex_iload dX9_feed_68 rfl rfl ?_
          refine ex_iload_n dX9_feed_70 rfl rfl ?_
          refine ex_icmp_ge (q := 142) (q2 := 74) dX9_feed_71 rfl rfl (fun _ => ?_) (fun hh => absurd (by decide) hh)
          refine ex_aload_n dX9_feed_142 rfl rfl ?_
          refine ex_getI (s := 29) (x := nI ((((P.1 + 1) + 1) + 1) + 1)) dX9_feed_143 rfl qp_8_70 rfl rfl (rfl) ?_
          exact ex_iret dX9_feed_146 rfl rfl rfl
      · refine J.u (.int (nI (P.1 + 1 + 1 + 1 + 1 + 1))) (T, X, (gt_add (gt_add (gt_add (gt_add (gt_add P a) b) c) d) e), Im, S) ⟨hT, hX, (gt_add_ok (gt_add_ok (gt_add_ok (gt_add_ok (gt_add_ok hP (by show P.1 < 160; omega) ha) (by show P.1 + 1 < 160; omega) hb) (by show P.1 + 1 + 1 < 160; omega) hc) (by show P.1 + 1 + 1 + 1 < 160; omega) hd) (by show P.1 + 1 + 1 + 1 + 1 < 160; omega) he), hI, hS, hw⟩ (fun σ hC => ?_) (fun σ hM => ?_)
        · have h : TR σ 9 18 T := hC.1
          have hg : sm σ (qm_wI (qm_wF (qm_wI (qm_wF (qm_wI (qm_wF (qm_wI (qm_wF (qm_wI (qm_wF σ 3 (P.1) (nI a)) 8 (nI (P.1 + 1))) 3 (P.1 + 1) (nI b)) 8 (nI (P.1 + 1 + 1))) 3 (P.1 + 1 + 1) (nI c)) 8 (nI (P.1 + 1 + 1 + 1))) 3 (P.1 + 1 + 1 + 1) (nI d)) 8 (nI (P.1 + 1 + 1 + 1 + 1))) 3 (P.1 + 1 + 1 + 1 + 1) (nI e)) 8 (nI (P.1 + 1 + 1 + 1 + 1 + 1))) 8 9 3 4 := (((((((((((sm.rf σ 8 9 3 4).wF _ (by omega)).wI _ (by omega)).wF _ (by omega)).wI _ (by omega)).wF _ (by omega)).wI _ (by omega)).wF _ (by omega)).wI _ (by omega)).wF _ (by omega)).wI _ (by omega))
          refine ⟨_, ?_, CG.tape hX hC (PC.add (PC.add (PC.add (PC.add (PC.add hC.2.2.1 a) b) c) d) e) hg, hg.wid (by omega) (by omega)⟩
          refine Ok.of (ls := [some (.ref 54), some (.int 5), some (.int (nI a)), some (.int (nI b)), some (.int (nI c)), some (.int (nI d)), some (.int (nI e))]) (Nat.le_of_ble_eq_true rfl) rfl ?_
          refine ex_iload_n dX8_feed_0 rfl rfl ?_
          refine ex_iconst (x := 1) dX8_feed_1 rfl rfl ?_
          refine ex_icmp_lt (q := 48) (q2 := 5) dX8_feed_2 rfl rfl (fun hh => absurd hh (by decide)) (fun _ => ?_)
          refine ex_iload_n dX8_feed_5 rfl rfl ?_
          refine ex_iconst (x := 5) dX8_feed_6 rfl rfl ?_
          refine ex_icmp_gt (q := 48) (q2 := 10) dX8_feed_7 rfl rfl (fun hh => absurd hh (by decide)) (fun _ => ?_)
          refine ex_iload_n dX8_feed_10 rfl rfl ?_
          refine ex_callS (rest := []) dX8_feed_11 rfl qp_7_84 rfl rfl rfl (Nat.le_of_ble_eq_true rfl) (c_isByte _ _) (Nat.le_of_ble_eq_true rfl) ?_
          show Ex qm_lay _ mX8_feed 14 [some (.ref 54), some (.int 5), some (.int (nI a)), some (.int (nI b)), some (.int (nI c)), some (.int (nI d)), some (.int (nI e))] [.int (b2i (tn_in (nI a) 0 255))] σ _ _
          refine ex_if_eq (q := 48) (q2 := 17) dX8_feed_14 rfl rfl (fun hh => absurd hh (b2i_n0.mpr (ca))) (fun _ => ?_)
          refine ex_iload_n dX8_feed_17 rfl rfl ?_
          refine ex_callS (rest := []) dX8_feed_18 rfl qp_7_84 rfl rfl rfl (Nat.le_of_ble_eq_true rfl) (c_isByte _ _) (Nat.le_of_ble_eq_true rfl) ?_
          show Ex qm_lay _ mX8_feed 21 [some (.ref 54), some (.int 5), some (.int (nI a)), some (.int (nI b)), some (.int (nI c)), some (.int (nI d)), some (.int (nI e))] [.int (b2i (tn_in (nI b) 0 255))] σ _ _
          refine ex_if_eq (q := 48) (q2 := 24) dX8_feed_21 rfl rfl (fun hh => absurd hh (b2i_n0.mpr (cb))) (fun _ => ?_)
          refine ex_iload dX8_feed_24 rfl rfl ?_
          refine ex_callS (rest := []) dX8_feed_26 rfl qp_7_84 rfl rfl rfl (Nat.le_of_ble_eq_true rfl) (c_isByte _ _) (Nat.le_of_ble_eq_true rfl) ?_
          show Ex qm_lay _ mX8_feed 29 [some (.ref 54), some (.int 5), some (.int (nI a)), some (.int (nI b)), some (.int (nI c)), some (.int (nI d)), some (.int (nI e))] [.int (b2i (tn_in (nI c) 0 255))] σ _ _
          refine ex_if_eq (q := 48) (q2 := 32) dX8_feed_29 rfl rfl (fun hh => absurd hh (b2i_n0.mpr (cc))) (fun _ => ?_)
          refine ex_iload dX8_feed_32 rfl rfl ?_
          refine ex_callS (rest := []) dX8_feed_34 rfl qp_7_84 rfl rfl rfl (Nat.le_of_ble_eq_true rfl) (c_isByte _ _) (Nat.le_of_ble_eq_true rfl) ?_
          show Ex qm_lay _ mX8_feed 37 [some (.ref 54), some (.int 5), some (.int (nI a)), some (.int (nI b)), some (.int (nI c)), some (.int (nI d)), some (.int (nI e))] [.int (b2i (tn_in (nI d) 0 255))] σ _ _
          refine ex_if_eq (q := 48) (q2 := 40) dX8_feed_37 rfl rfl (fun hh => absurd hh (b2i_n0.mpr (cd))) (fun _ => ?_)
          refine ex_iload dX8_feed_40 rfl rfl ?_
          refine ex_callS (rest := []) dX8_feed_42 rfl qp_7_84 rfl rfl rfl (Nat.le_of_ble_eq_true rfl) (c_isByte _ _) (Nat.le_of_ble_eq_true rfl) ?_
          show Ex qm_lay _ mX8_feed 45 [some (.ref 54), some (.int 5), some (.int (nI a)), some (.int (nI b)), some (.int (nI c)), some (.int (nI d)), some (.int (nI e))] [.int (b2i (tn_in (nI e) 0 255))] σ _ _
          refine ex_if_ne (q := 51) (q2 := 48) dX8_feed_45 rfl rfl (fun _ => ?_) (fun hh => absurd (b2i_n0.mpr (ce)) hh)
          refine ex_aload_n dX8_feed_51 rfl rfl ?_
          refine ex_getR (b := 4) dX8_feed_52 rfl qp_7_29 rfl rfl ?_
          refine ex_getI (s := 8) (x := nI P.1) dX8_feed_55 rfl qp_7_81 rfl rfl (hC.2.2.1.1) ?_
          refine ex_iload_n dX8_feed_58 rfl rfl ?_
          refine ex_iadd (z := nI (P.1 + 5)) dX8_feed_59 rfl (nI_add P.1 5) ?_
          refine ex_sipush (x := 160) dX8_feed_60 rfl rfl ?_
          refine ex_icmp_le (q := 69) (q2 := 66) dX8_feed_63 rfl rfl (fun _ => ?_) (fun hh => absurd (nI_le (a := (P.1 + 5)) (b := 160) (by omega) (by omega)) hh)
          refine ex_aload_n dX8_feed_69 rfl rfl ?_
          refine ex_getR (b := 4) dX8_feed_70 rfl qp_7_29 rfl rfl ?_
          refine ex_iload_n dX8_feed_73 rfl rfl ?_
          refine ex_callV (a := 4) (rest := []) dX8_feed_74 rfl qp_7_88 rfl rfl rfl rfl rfl (Nat.le_of_ble_eq_true rfl) (c_addByte (ext := qm_layR) (n := P.1) hC.2.2.1.1 (by omega) a) (Nat.le_of_ble_eq_true rfl) ?_
          show Ex qm_lay _ mX8_feed 77 [some (.ref 54), some (.int 5), some (.int (nI a)), some (.int (nI b)), some (.int (nI c)), some (.int (nI d)), some (.int (nI e))] [] (qm_wI (qm_wF σ 3 P.1 (nI a)) 8 (nI (P.1 + 1))) _ _
          refine ex_iload_n dX8_feed_77 rfl rfl ?_
          refine ex_iconst (x := 1) dX8_feed_78 rfl rfl ?_
          refine ex_icmp_le (q := 90) (q2 := 82) dX8_feed_79 rfl rfl (fun hh => absurd hh (by decide)) (fun _ => ?_)
          refine ex_aload_n dX8_feed_82 rfl rfl ?_
          refine ex_getR (b := 4) dX8_feed_83 rfl qp_7_29 rfl rfl ?_
          refine ex_iload_n dX8_feed_86 rfl rfl ?_
          refine ex_callV (a := 4) (rest := []) dX8_feed_87 rfl qp_7_88 rfl rfl rfl rfl rfl (Nat.le_of_ble_eq_true rfl) (c_addByte (ext := qm_layR) (n := P.1 + 1) rfl (by omega) b) (Nat.le_of_ble_eq_true rfl) ?_
          show Ex qm_lay _ mX8_feed 90 [some (.ref 54), some (.int 5), some (.int (nI a)), some (.int (nI b)), some (.int (nI c)), some (.int (nI d)), some (.int (nI e))] [] (qm_wI (qm_wF (qm_wI (qm_wF σ 3 P.1 (nI a)) 8 (nI (P.1 + 1))) 3 (P.1 + 1) (nI b)) 8 (nI ((P.1 + 1) + 1))) _ _
          refine ex_iload_n dX8_feed_90 rfl rfl ?_
          refine ex_iconst (x := 2) dX8_feed_91 rfl rfl ?_
          refine ex_icmp_le (q := 104) (q2 := 95) dX8_feed_92 rfl rfl (fun hh => absurd hh (by decide)) (fun _ => ?_)
          refine ex_aload_n dX8_feed_95 rfl rfl ?_
          refine ex_getR (b := 4) dX8_feed_96 rfl qp_7_29 rfl rfl ?_
          refine ex_iload dX8_feed_99 rfl rfl ?_
          refine ex_callV (a := 4) (rest := []) dX8_feed_101 rfl qp_7_88 rfl rfl rfl rfl rfl (Nat.le_of_ble_eq_true rfl) (c_addByte (ext := qm_layR) (n := (P.1 + 1) + 1) rfl (by omega) c) (Nat.le_of_ble_eq_true rfl) ?_
          show Ex qm_lay _ mX8_feed 104 [some (.ref 54), some (.int 5), some (.int (nI a)), some (.int (nI b)), some (.int (nI c)), some (.int (nI d)), some (.int (nI e))] [] (qm_wI (qm_wF (qm_wI (qm_wF (qm_wI (qm_wF σ 3 P.1 (nI a)) 8 (nI (P.1 + 1))) 3 (P.1 + 1) (nI b)) 8 (nI ((P.1 + 1) + 1))) 3 ((P.1 + 1) + 1) (nI c)) 8 (nI (((P.1 + 1) + 1) + 1))) _ _
          refine ex_iload_n dX8_feed_104 rfl rfl ?_
          refine ex_iconst (x := 3) dX8_feed_105 rfl rfl ?_
          refine ex_icmp_le (q := 118) (q2 := 109) dX8_feed_106 rfl rfl (fun hh => absurd hh (by decide)) (fun _ => ?_)
          refine ex_aload_n dX8_feed_109 rfl rfl ?_
          refine ex_getR (b := 4) dX8_feed_110 rfl qp_7_29 rfl rfl ?_
          refine ex_iload dX8_feed_113 rfl rfl ?_
          refine ex_callV (a := 4) (rest := []) dX8_feed_115 rfl qp_7_88 rfl rfl rfl rfl rfl (Nat.le_of_ble_eq_true rfl) (c_addByte (ext := qm_layR) (n := ((P.1 + 1) + 1) + 1) rfl (by omega) d) (Nat.le_of_ble_eq_true rfl) ?_
          show Ex qm_lay _ mX8_feed 118 [some (.ref 54), some (.int 5), some (.int (nI a)), some (.int (nI b)), some (.int (nI c)), some (.int (nI d)), some (.int (nI e))] [] (qm_wI (qm_wF (qm_wI (qm_wF (qm_wI (qm_wF (qm_wI (qm_wF σ 3 P.1 (nI a)) 8 (nI (P.1 + 1))) 3 (P.1 + 1) (nI b)) 8 (nI ((P.1 + 1) + 1))) 3 ((P.1 + 1) + 1) (nI c)) 8 (nI (((P.1 + 1) + 1) + 1))) 3 (((P.1 + 1) + 1) + 1) (nI d)) 8 (nI ((((P.1 + 1) + 1) + 1) + 1))) _ _
          refine ex_iload_n dX8_feed_118 rfl rfl ?_
          refine ex_iconst (x := 4) dX8_feed_119 rfl rfl ?_
          refine ex_icmp_le (q := 132) (q2 := 123) dX8_feed_120 rfl rfl (fun hh => absurd hh (by decide)) (fun _ => ?_)
          refine ex_aload_n dX8_feed_123 rfl rfl ?_
          refine ex_getR (b := 4) dX8_feed_124 rfl qp_7_29 rfl rfl ?_
          refine ex_iload dX8_feed_127 rfl rfl ?_
          refine ex_callV (a := 4) (rest := []) dX8_feed_129 rfl qp_7_88 rfl rfl rfl rfl rfl (Nat.le_of_ble_eq_true rfl) (c_addByte (ext := qm_layR) (n := (((P.1 + 1) + 1) + 1) + 1) rfl (by omega) e) (Nat.le_of_ble_eq_true rfl) ?_
          show Ex qm_lay _ mX8_feed 132 [some (.ref 54), some (.int 5), some (.int (nI a)), some (.int (nI b)), some (.int (nI c)), some (.int (nI d)), some (.int (nI e))] [] (qm_wI (qm_wF (qm_wI (qm_wF (qm_wI (qm_wF (qm_wI (qm_wF (qm_wI (qm_wF σ 3 P.1 (nI a)) 8 (nI (P.1 + 1))) 3 (P.1 + 1) (nI b)) 8 (nI ((P.1 + 1) + 1))) 3 ((P.1 + 1) + 1) (nI c)) 8 (nI (((P.1 + 1) + 1) + 1))) 3 (((P.1 + 1) + 1) + 1) (nI d)) 8 (nI ((((P.1 + 1) + 1) + 1) + 1))) 3 ((((P.1 + 1) + 1) + 1) + 1) (nI e)) 8 (nI (((((P.1 + 1) + 1) + 1) + 1) + 1))) _ _
          refine ex_aload_n dX8_feed_132 rfl rfl ?_
          refine ex_getR (b := 4) dX8_feed_133 rfl qp_7_29 rfl rfl ?_
          refine ex_getI (s := 8) (x := nI (((((P.1 + 1) + 1) + 1) + 1) + 1)) dX8_feed_136 rfl qp_7_81 rfl rfl (rfl) ?_
          exact ex_iret dX8_feed_139 rfl rfl rfl
        · have h : MR σ T := hM.1
          have hg : sm σ (qm_wI (qm_wF (qm_wI (qm_wF (qm_wI (qm_wF (qm_wI (qm_wF (qm_wI (qm_wF σ 47 (P.1) (nI a)) 29 (nI (P.1 + 1))) 47 (P.1 + 1) (nI b)) 29 (nI (P.1 + 1 + 1))) 47 (P.1 + 1 + 1) (nI c)) 29 (nI (P.1 + 1 + 1 + 1))) 47 (P.1 + 1 + 1 + 1) (nI d)) 29 (nI (P.1 + 1 + 1 + 1 + 1))) 47 (P.1 + 1 + 1 + 1 + 1) (nI e)) 29 (nI (P.1 + 1 + 1 + 1 + 1 + 1))) 29 30 47 48 := (((((((((((sm.rf σ 29 30 47 48).wF _ (by omega)).wI _ (by omega)).wF _ (by omega)).wI _ (by omega)).wF _ (by omega)).wI _ (by omega)).wF _ (by omega)).wI _ (by omega)).wF _ (by omega)).wI _ (by omega))
          refine ⟨_, ?_, MG.tape hM (PM.add (PM.add (PM.add (PM.add (PM.add hM.2.2.1 a) b) c) d) e) hg, hg.wid (by omega) (by omega)⟩
          refine Ok.of (ls := [some (.ref 55), some (.int 5), some (.int (nI a)), some (.int (nI b)), some (.int (nI c)), some (.int (nI d)), some (.int (nI e)), none]) (Nat.le_of_ble_eq_true rfl) rfl ?_
          refine ex_iload_n dX9_feed_0 rfl rfl ?_
          refine ex_iconst (x := 1) dX9_feed_1 rfl rfl ?_
          refine ex_iconst (x := 5) dX9_feed_2 rfl rfl ?_
          refine ex_callS (rest := []) dX9_feed_3 rfl qp_8_81 rfl rfl rfl (Nat.le_of_ble_eq_true rfl) (k_in _ _ _ _) (Nat.le_of_ble_eq_true rfl) ?_
          show Ex qm_lay _ mX9_feed 6 [some (.ref 55), some (.int 5), some (.int (nI a)), some (.int (nI b)), some (.int (nI c)), some (.int (nI d)), some (.int (nI e)), none] [.int (b2i (tn_in 5 1 5))] σ _ _
          refine ex_if_eq (q := 47) (q2 := 9) dX9_feed_6 rfl rfl (fun hh => absurd hh (b2i_n0.mpr (c2))) (fun _ => ?_)
          refine ex_iload_n dX9_feed_9 rfl rfl ?_
          refine ex_callS (rest := []) dX9_feed_10 rfl qp_8_111 rfl rfl rfl (Nat.le_of_ble_eq_true rfl) (k_isByte _ _) (Nat.le_of_ble_eq_true rfl) ?_
          show Ex qm_lay _ mX9_feed 13 [some (.ref 55), some (.int 5), some (.int (nI a)), some (.int (nI b)), some (.int (nI c)), some (.int (nI d)), some (.int (nI e)), none] [.int (b2i (tn_in (nI a) 0 255))] σ _ _
          refine ex_if_eq (q := 47) (q2 := 16) dX9_feed_13 rfl rfl (fun hh => absurd hh (b2i_n0.mpr (ca))) (fun _ => ?_)
          refine ex_iload_n dX9_feed_16 rfl rfl ?_
          refine ex_callS (rest := []) dX9_feed_17 rfl qp_8_111 rfl rfl rfl (Nat.le_of_ble_eq_true rfl) (k_isByte _ _) (Nat.le_of_ble_eq_true rfl) ?_
          show Ex qm_lay _ mX9_feed 20 [some (.ref 55), some (.int 5), some (.int (nI a)), some (.int (nI b)), some (.int (nI c)), some (.int (nI d)), some (.int (nI e)), none] [.int (b2i (tn_in (nI b) 0 255))] σ _ _
          refine ex_if_eq (q := 47) (q2 := 23) dX9_feed_20 rfl rfl (fun hh => absurd hh (b2i_n0.mpr (cb))) (fun _ => ?_)
          refine ex_iload dX9_feed_23 rfl rfl ?_
          refine ex_callS (rest := []) dX9_feed_25 rfl qp_8_111 rfl rfl rfl (Nat.le_of_ble_eq_true rfl) (k_isByte _ _) (Nat.le_of_ble_eq_true rfl) ?_
          show Ex qm_lay _ mX9_feed 28 [some (.ref 55), some (.int 5), some (.int (nI a)), some (.int (nI b)), some (.int (nI c)), some (.int (nI d)), some (.int (nI e)), none] [.int (b2i (tn_in (nI c) 0 255))] σ _ _
          refine ex_if_eq (q := 47) (q2 := 31) dX9_feed_28 rfl rfl (fun hh => absurd hh (b2i_n0.mpr (cc))) (fun _ => ?_)
          refine ex_iload dX9_feed_31 rfl rfl ?_
          refine ex_callS (rest := []) dX9_feed_33 rfl qp_8_111 rfl rfl rfl (Nat.le_of_ble_eq_true rfl) (k_isByte _ _) (Nat.le_of_ble_eq_true rfl) ?_
          show Ex qm_lay _ mX9_feed 36 [some (.ref 55), some (.int 5), some (.int (nI a)), some (.int (nI b)), some (.int (nI c)), some (.int (nI d)), some (.int (nI e)), none] [.int (b2i (tn_in (nI d) 0 255))] σ _ _
          refine ex_if_eq (q := 47) (q2 := 39) dX9_feed_36 rfl rfl (fun hh => absurd hh (b2i_n0.mpr (cd))) (fun _ => ?_)
          refine ex_iload dX9_feed_39 rfl rfl ?_
          refine ex_callS (rest := []) dX9_feed_41 rfl qp_8_111 rfl rfl rfl (Nat.le_of_ble_eq_true rfl) (k_isByte _ _) (Nat.le_of_ble_eq_true rfl) ?_
          show Ex qm_lay _ mX9_feed 44 [some (.ref 55), some (.int 5), some (.int (nI a)), some (.int (nI b)), some (.int (nI c)), some (.int (nI d)), some (.int (nI e)), none] [.int (b2i (tn_in (nI e) 0 255))] σ _ _
          refine ex_if_ne (q := 50) (q2 := 47) dX9_feed_44 rfl rfl (fun _ => ?_) (fun hh => absurd (b2i_n0.mpr (ce)) hh)
          refine ex_aload_n dX9_feed_50 rfl rfl ?_
          refine ex_getI (s := 29) (x := nI P.1) dX9_feed_51 rfl qp_8_70 rfl rfl (hM.2.2.1.1) ?_
          refine ex_iload_n dX9_feed_54 rfl rfl ?_
          refine ex_iadd (z := nI (P.1 + 5)) dX9_feed_55 rfl (nI_add P.1 5) ?_
          refine ex_sipush (x := 160) dX9_feed_56 rfl rfl ?_
          refine ex_icmp_le (q := 65) (q2 := 62) dX9_feed_59 rfl rfl (fun _ => ?_) (fun hh => absurd (nI_le (a := (P.1 + 5)) (b := 160) (by omega) (by omega)) hh)
          refine ex_iconst (x := 0) dX9_feed_65 rfl rfl ?_
          refine ex_istore (ls' := [some (.ref 55), some (.int 5), some (.int (nI a)), some (.int (nI b)), some (.int (nI c)), some (.int (nI d)), some (.int (nI e)), some (.int 0)]) dX9_feed_66 rfl (Nat.le_of_ble_eq_true rfl) rfl rfl ?_
          refine ex_iload dX9_feed_68 rfl rfl ?_
          refine ex_iload_n dX9_feed_70 rfl rfl ?_
          refine ex_icmp_ge (q := 142) (q2 := 74) dX9_feed_71 rfl rfl (fun hh => absurd hh (by decide)) (fun _ => ?_)
          refine ex_aload_n dX9_feed_74 rfl rfl ?_
          refine ex_getR (b := 61) dX9_feed_75 rfl qp_8_25 rfl rfl ?_
          refine ex_aload_n dX9_feed_78 rfl rfl ?_
          refine ex_getI (s := 29) (x := nI P.1) dX9_feed_79 rfl qp_8_70 rfl rfl (hM.2.2.1.1) ?_
          refine ex_iload dX9_feed_82 rfl rfl ?_
          refine ex_if_ne (q := 91) (q2 := 87) dX9_feed_84 rfl rfl (fun hh => absurd hh (by decide)) (fun _ => ?_)
          refine ex_iload_n dX9_feed_87 rfl rfl ?_
          refine ex_goto (q := 125) dX9_feed_88 rfl ?_
          refine ex_iastore (k := P.1) (σ' := qm_wF σ 47 P.1 (nI a)) dX9_feed_125 rfl rfl (rfl) (by omega) (by decide) rfl ?_
          refine ex_aload_n dX9_feed_126 rfl rfl ?_
          refine ex_dup dX9_feed_127 rfl rfl ?_
          refine ex_getI (s := 29) (x := nI P.1) dX9_feed_128 rfl qp_8_70 rfl rfl (hM.2.2.1.1) ?_
          refine ex_iconst (x := 1) dX9_feed_131 rfl rfl ?_
          refine ex_iadd (z := nI (P.1 + 1)) dX9_feed_132 rfl (nI_add P.1 1) ?_
          refine ex_put (σ' := qm_wI (qm_wF σ 47 P.1 (nI a)) 29 (nI (P.1 + 1))) dX9_feed_133 rfl qp_8_70 rfl rfl (Or.inl rfl) rfl ?_
          refine ex_iinc (y := 1) (ls' := [some (.ref 55), some (.int 5), some (.int (nI a)), some (.int (nI b)), some (.int (nI c)), some (.int (nI d)), some (.int (nI e)), some (.int 1)]) dX9_feed_136 rfl rfl rfl (rfl) rfl ?_
          refine ex_goto (q := 68) dX9_feed_139 rfl ?_
          refine ex_iload dX9_feed_68 rfl rfl ?_
          refine ex_iload_n dX9_feed_70 rfl rfl ?_
          refine ex_icmp_ge (q := 142) (q2 := 74) dX9_feed_71 rfl rfl (fun hh => absurd hh (by decide)) (fun _ => ?_)
          refine ex_aload_n dX9_feed_74 rfl rfl ?_
          refine ex_getR (b := 61) dX9_feed_75 rfl qp_8_25 rfl rfl ?_
          refine ex_aload_n dX9_feed_78 rfl rfl ?_
          refine ex_getI (s := 29) (x := nI (P.1 + 1)) dX9_feed_79 rfl qp_8_70 rfl rfl (rfl) ?_
          refine ex_iload dX9_feed_82 rfl rfl ?_
          refine ex_if_ne (q := 91) (q2 := 87) dX9_feed_84 rfl rfl (fun _ => ?_) (fun hh => absurd (by decide) hh)
          refine ex_iload dX9_feed_91 rfl rfl ?_
          refine ex_iconst (x := 1) dX9_feed_93 rfl rfl ?_
          refine ex_icmp_ne (q := 101) (q2 := 97) dX9_feed_94 rfl rfl (fun hh => absurd hh (by decide)) (fun _ => ?_)
          refine ex_iload_n dX9_feed_97 rfl rfl ?_
          refine ex_goto (q := 125) dX9_feed_98 rfl ?_
          refine ex_iastore (k := P.1 + 1) (σ' := qm_wF (qm_wI (qm_wF σ 47 P.1 (nI a)) 29 (nI (P.1 + 1))) 47 (P.1 + 1) (nI b)) dX9_feed_125 rfl rfl (rfl) (by omega) (by decide) rfl ?_
          refine ex_aload_n dX9_feed_126 rfl rfl ?_
          refine ex_dup dX9_feed_127 rfl rfl ?_
          refine ex_getI (s := 29) (x := nI (P.1 + 1)) dX9_feed_128 rfl qp_8_70 rfl rfl (rfl) ?_
          refine ex_iconst (x := 1) dX9_feed_131 rfl rfl ?_
          refine ex_iadd (z := nI ((P.1 + 1) + 1)) dX9_feed_132 rfl (nI_add (P.1 + 1) 1) ?_
          refine ex_put (σ' := qm_wI (qm_wF (qm_wI (qm_wF σ 47 P.1 (nI a)) 29 (nI (P.1 + 1))) 47 (P.1 + 1) (nI b)) 29 (nI ((P.1 + 1) + 1))) dX9_feed_133 rfl qp_8_70 rfl rfl (Or.inl rfl) rfl ?_
          refine ex_iinc (y := 2) (ls' := [some (.ref 55), some (.int 5), some (.int (nI a)), some (.int (nI b)), some (.int (nI c)), some (.int (nI d)), some (.int (nI e)), some (.int 2)]) dX9_feed_136 rfl rfl rfl (rfl) rfl ?_
          refine ex_goto (q := 68) dX9_feed_139 rfl ?_
          refine ex_iload dX9_feed_68 rfl rfl ?_
          refine ex_iload_n dX9_feed_70 rfl rfl ?_
          refine ex_icmp_ge (q := 142) (q2 := 74) dX9_feed_71 rfl rfl (fun hh => absurd hh (by decide)) (fun _ => ?_)
          refine ex_aload_n dX9_feed_74 rfl rfl ?_
          refine ex_getR (b := 61) dX9_feed_75 rfl qp_8_25 rfl rfl ?_
          refine ex_aload_n dX9_feed_78 rfl rfl ?_
          refine ex_getI (s := 29) (x := nI ((P.1 + 1) + 1)) dX9_feed_79 rfl qp_8_70 rfl rfl (rfl) ?_
          refine ex_iload dX9_feed_82 rfl rfl ?_
          refine ex_if_ne (q := 91) (q2 := 87) dX9_feed_84 rfl rfl (fun _ => ?_) (fun hh => absurd (by decide) hh)
          refine ex_iload dX9_feed_91 rfl rfl ?_
          refine ex_iconst (x := 1) dX9_feed_93 rfl rfl ?_
          refine ex_icmp_ne (q := 101) (q2 := 97) dX9_feed_94 rfl rfl (fun _ => ?_) (fun hh => absurd (by decide) hh)
          refine ex_iload dX9_feed_101 rfl rfl ?_
          refine ex_iconst (x := 2) dX9_feed_103 rfl rfl ?_
          refine ex_icmp_ne (q := 112) (q2 := 107) dX9_feed_104 rfl rfl (fun hh => absurd hh (by decide)) (fun _ => ?_)
          refine ex_iload dX9_feed_107 rfl rfl ?_
          refine ex_goto (q := 125) dX9_feed_109 rfl ?_
          refine ex_iastore (k := (P.1 + 1) + 1) (σ' := qm_wF (qm_wI (qm_wF (qm_wI (qm_wF σ 47 P.1 (nI a)) 29 (nI (P.1 + 1))) 47 (P.1 + 1) (nI b)) 29 (nI ((P.1 + 1) + 1))) 47 ((P.1 + 1) + 1) (nI c)) dX9_feed_125 rfl rfl (rfl) (by omega) (by decide) rfl ?_
          refine ex_aload_n dX9_feed_126 rfl rfl ?_
          refine ex_dup dX9_feed_127 rfl rfl ?_
          refine ex_getI (s := 29) (x := nI ((P.1 + 1) + 1)) dX9_feed_128 rfl qp_8_70 rfl rfl (rfl) ?_
          refine ex_iconst (x := 1) dX9_feed_131 rfl rfl ?_
          refine ex_iadd (z := nI (((P.1 + 1) + 1) + 1)) dX9_feed_132 rfl (nI_add ((P.1 + 1) + 1) 1) ?_
          refine ex_put (σ' := qm_wI (qm_wF (qm_wI (qm_wF (qm_wI (qm_wF σ 47 P.1 (nI a)) 29 (nI (P.1 + 1))) 47 (P.1 + 1) (nI b)) 29 (nI ((P.1 + 1) + 1))) 47 ((P.1 + 1) + 1) (nI c)) 29 (nI (((P.1 + 1) + 1) + 1))) dX9_feed_133 rfl qp_8_70 rfl rfl (Or.inl rfl) rfl ?_
          refine ex_iinc (y := 3) (ls' := [some (.ref 55), some (.int 5), some (.int (nI a)), some (.int (nI b)), some (.int (nI c)), some (.int (nI d)), some (.int (nI e)), some (.int 3)]) dX9_feed_136 rfl rfl rfl (rfl) rfl ?_
          refine ex_goto (q := 68) dX9_feed_139 rfl ?_
          refine ex_iload dX9_feed_68 rfl rfl ?_
          refine ex_iload_n dX9_feed_70 rfl rfl ?_
          refine ex_icmp_ge (q := 142) (q2 := 74) dX9_feed_71 rfl rfl (fun hh => absurd hh (by decide)) (fun _ => ?_)
          refine ex_aload_n dX9_feed_74 rfl rfl ?_
          refine ex_getR (b := 61) dX9_feed_75 rfl qp_8_25 rfl rfl ?_
          refine ex_aload_n dX9_feed_78 rfl rfl ?_
          refine ex_getI (s := 29) (x := nI (((P.1 + 1) + 1) + 1)) dX9_feed_79 rfl qp_8_70 rfl rfl (rfl) ?_
          refine ex_iload dX9_feed_82 rfl rfl ?_
          refine ex_if_ne (q := 91) (q2 := 87) dX9_feed_84 rfl rfl (fun _ => ?_) (fun hh => absurd (by decide) hh)
          refine ex_iload dX9_feed_91 rfl rfl ?_
          refine ex_iconst (x := 1) dX9_feed_93 rfl rfl ?_
          refine ex_icmp_ne (q := 101) (q2 := 97) dX9_feed_94 rfl rfl (fun _ => ?_) (fun hh => absurd (by decide) hh)
          refine ex_iload dX9_feed_101 rfl rfl ?_
          refine ex_iconst (x := 2) dX9_feed_103 rfl rfl ?_
          refine ex_icmp_ne (q := 112) (q2 := 107) dX9_feed_104 rfl rfl (fun _ => ?_) (fun hh => absurd (by decide) hh)
          refine ex_iload dX9_feed_112 rfl rfl ?_
          refine ex_iconst (x := 3) dX9_feed_114 rfl rfl ?_
          refine ex_icmp_ne (q := 123) (q2 := 118) dX9_feed_115 rfl rfl (fun hh => absurd hh (by decide)) (fun _ => ?_)
          refine ex_iload dX9_feed_118 rfl rfl ?_
          refine ex_goto (q := 125) dX9_feed_120 rfl ?_
          refine ex_iastore (k := ((P.1 + 1) + 1) + 1) (σ' := qm_wF (qm_wI (qm_wF (qm_wI (qm_wF (qm_wI (qm_wF σ 47 P.1 (nI a)) 29 (nI (P.1 + 1))) 47 (P.1 + 1) (nI b)) 29 (nI ((P.1 + 1) + 1))) 47 ((P.1 + 1) + 1) (nI c)) 29 (nI (((P.1 + 1) + 1) + 1))) 47 (((P.1 + 1) + 1) + 1) (nI d)) dX9_feed_125 rfl rfl (rfl) (by omega) (by decide) rfl ?_
          refine ex_aload_n dX9_feed_126 rfl rfl ?_
          refine ex_dup dX9_feed_127 rfl rfl ?_
          refine ex_getI (s := 29) (x := nI (((P.1 + 1) + 1) + 1)) dX9_feed_128 rfl qp_8_70 rfl rfl (rfl) ?_
          refine ex_iconst (x := 1) dX9_feed_131 rfl rfl ?_
          refine ex_iadd (z := nI ((((P.1 + 1) + 1) + 1) + 1)) dX9_feed_132 rfl (nI_add (((P.1 + 1) + 1) + 1) 1) ?_
          refine ex_put (σ' := qm_wI (qm_wF (qm_wI (qm_wF (qm_wI (qm_wF (qm_wI (qm_wF σ 47 P.1 (nI a)) 29 (nI (P.1 + 1))) 47 (P.1 + 1) (nI b)) 29 (nI ((P.1 + 1) + 1))) 47 ((P.1 + 1) + 1) (nI c)) 29 (nI (((P.1 + 1) + 1) + 1))) 47 (((P.1 + 1) + 1) + 1) (nI d)) 29 (nI ((((P.1 + 1) + 1) + 1) + 1))) dX9_feed_133 rfl qp_8_70 rfl rfl (Or.inl rfl) rfl ?_
          refine ex_iinc (y := 4) (ls' := [some (.ref 55), some (.int 5), some (.int (nI a)), some (.int (nI b)), some (.int (nI c)), some (.int (nI d)), some (.int (nI e)), some (.int 4)]) dX9_feed_136 rfl rfl rfl (rfl) rfl ?_
          refine ex_goto (q := 68) dX9_feed_139 rfl ?_
          refine ex_iload dX9_feed_68 rfl rfl ?_
          refine ex_iload_n dX9_feed_70 rfl rfl ?_
          refine ex_icmp_ge (q := 142) (q2 := 74) dX9_feed_71 rfl rfl (fun hh => absurd hh (by decide)) (fun _ => ?_)
          refine ex_aload_n dX9_feed_74 rfl rfl ?_
          refine ex_getR (b := 61) dX9_feed_75 rfl qp_8_25 rfl rfl ?_
          refine ex_aload_n dX9_feed_78 rfl rfl ?_
          refine ex_getI (s := 29) (x := nI ((((P.1 + 1) + 1) + 1) + 1)) dX9_feed_79 rfl qp_8_70 rfl rfl (rfl) ?_
          refine ex_iload dX9_feed_82 rfl rfl ?_
          refine ex_if_ne (q := 91) (q2 := 87) dX9_feed_84 rfl rfl (fun _ => ?_) (fun hh => absurd (by decide) hh)
          refine ex_iload dX9_feed_91 rfl rfl ?_
          refine ex_iconst (x := 1) dX9_feed_93 rfl rfl ?_
          refine ex_icmp_ne (q := 101) (q2 := 97) dX9_feed_94 rfl rfl (fun _ => ?_) (fun hh => absurd (by decide) hh)
          refine ex_iload dX9_feed_101 rfl rfl ?_
          refine ex_iconst (x := 2) dX9_feed_103 rfl rfl ?_
          refine ex_icmp_ne (q := 112) (q2 := 107) dX9_feed_104 rfl rfl (fun _ => ?_) (fun hh => absurd (by decide) hh)
          refine ex_iload dX9_feed_112 rfl rfl ?_
          refine ex_iconst (x := 3) dX9_feed_114 rfl rfl ?_
          refine ex_icmp_ne (q := 123) (q2 := 118) dX9_feed_115 rfl rfl (fun _ => ?_) (fun hh => absurd (by decide) hh)
          refine ex_iload dX9_feed_123 rfl rfl ?_
          refine ex_iastore (k := (((P.1 + 1) + 1) + 1) + 1) (σ' := qm_wF (qm_wI (qm_wF (qm_wI (qm_wF (qm_wI (qm_wF (qm_wI (qm_wF σ 47 P.1 (nI a)) 29 (nI (P.1 + 1))) 47 (P.1 + 1) (nI b)) 29 (nI ((P.1 + 1) + 1))) 47 ((P.1 + 1) + 1) (nI c)) 29 (nI (((P.1 + 1) + 1) + 1))) 47 (((P.1 + 1) + 1) + 1) (nI d)) 29 (nI ((((P.1 + 1) + 1) + 1) + 1))) 47 ((((P.1 + 1) + 1) + 1) + 1) (nI e)) dX9_feed_125 rfl rfl (rfl) (by omega) (by decide) rfl ?_
          refine ex_aload_n dX9_feed_126 rfl rfl ?_
          refine ex_dup dX9_feed_127 rfl rfl ?_
          refine ex_getI (s := 29) (x := nI ((((P.1 + 1) + 1) + 1) + 1)) dX9_feed_128 rfl qp_8_70 rfl rfl (rfl) ?_
          refine ex_iconst (x := 1) dX9_feed_131 rfl rfl ?_
          refine ex_iadd (z := nI (((((P.1 + 1) + 1) + 1) + 1) + 1)) dX9_feed_132 rfl (nI_add ((((P.1 + 1) + 1) + 1) + 1) 1) ?_
          refine ex_put (σ' := qm_wI (qm_wF (qm_wI (qm_wF (qm_wI (qm_wF (qm_wI (qm_wF (qm_wI (qm_wF σ 47 P.1 (nI a)) 29 (nI (P.1 + 1))) 47 (P.1 + 1) (nI b)) 29 (nI ((P.1 + 1) + 1))) 47 ((P.1 + 1) + 1) (nI c)) 29 (nI (((P.1 + 1) + 1) + 1))) 47 (((P.1 + 1) + 1) + 1) (nI d)) 29 (nI ((((P.1 + 1) + 1) + 1) + 1))) 47 ((((P.1 + 1) + 1) + 1) + 1) (nI e)) 29 (nI (((((P.1 + 1) + 1) + 1) + 1) + 1))) dX9_feed_133 rfl qp_8_70 rfl rfl (Or.inl rfl) rfl ?_
          refine ex_iinc (y := 5) (ls' := [some (.ref 55), some (.int 5), some (.int (nI a)), some (.int (nI b)), some (.int (nI c)), some (.int (nI d)), some (.int (nI e)), some (.int 5)]) dX9_feed_136 rfl rfl rfl (rfl) rfl ?_
          refine ex_goto (q := 68) dX9_feed_139 rfl ?_
          refine ex_iload dX9_feed_68 rfl rfl ?_
          refine ex_iload_n dX9_feed_70 rfl rfl ?_
          refine ex_icmp_ge (q := 142) (q2 := 74) dX9_feed_71 rfl rfl (fun _ => ?_) (fun hh => absurd (by decide) hh)
          refine ex_aload_n dX9_feed_142 rfl rfl ?_
          refine ex_getI (s := 29) (x := nI (((((P.1 + 1) + 1) + 1) + 1) + 1)) dX9_feed_143 rfl qp_8_70 rfl rfl (rfl) ?_
          exact ex_iret dX9_feed_146 rfl rfl rfl
  · refine J.q hG (.int (-2)) (fun σ hC => ?_) (fun σ hM => ?_)
    · have h : TR σ 9 18 T := hC.1
      refine Ok.of (ls := [some (.ref 54), some (.int n), some (.int a), some (.int b), some (.int c), some (.int d), some (.int e)]) (Nat.le_of_ble_eq_true rfl) rfl ?_
      refine ex_iload_n dX8_feed_0 rfl rfl ?_
      refine ex_iconst (x := 1) dX8_feed_1 rfl rfl ?_
      refine ex_icmp_lt (q := 48) (q2 := 5) dX8_feed_2 rfl rfl (fun h2 => ?_) (fun h2 => ?_)
      · refine ex_bipush (x := (-2)) dX8_feed_48 rfl rfl ?_
        exact ex_iret dX8_feed_50 rfl rfl rfl
      · refine ex_iload_n dX8_feed_5 rfl rfl ?_
        refine ex_iconst (x := 5) dX8_feed_6 rfl rfl ?_
        refine ex_icmp_gt (q := 48) (q2 := 10) dX8_feed_7 rfl rfl (fun h7 => ?_) (fun h7 => ?_)
        · refine ex_bipush (x := (-2)) dX8_feed_48 rfl rfl ?_
          exact ex_iret dX8_feed_50 rfl rfl rfl
        · refine ex_iload_n dX8_feed_10 rfl rfl ?_
          refine ex_callS (rest := []) dX8_feed_11 rfl qp_7_84 rfl rfl rfl (Nat.le_of_ble_eq_true rfl) (c_isByte _ _) (Nat.le_of_ble_eq_true rfl) ?_
          show Ex qm_lay _ mX8_feed 14 [some (.ref 54), some (.int n), some (.int a), some (.int b), some (.int c), some (.int d), some (.int e)] [.int (b2i (tn_in a 0 255))] σ _ _
          refine ex_if_eq (q := 48) (q2 := 17) dX8_feed_14 rfl rfl (fun h14 => ?_) (fun h14 => ?_)
          · have hb14 : (tn_in a 0 255) = false := b2i_0.mp h14
            refine ex_bipush (x := (-2)) dX8_feed_48 rfl rfl ?_
            exact ex_iret dX8_feed_50 rfl rfl rfl
          · have hb14 : (tn_in a 0 255) = true := b2i_n0.mp h14
            refine ex_iload_n dX8_feed_17 rfl rfl ?_
            refine ex_callS (rest := []) dX8_feed_18 rfl qp_7_84 rfl rfl rfl (Nat.le_of_ble_eq_true rfl) (c_isByte _ _) (Nat.le_of_ble_eq_true rfl) ?_
            show Ex qm_lay _ mX8_feed 21 [some (.ref 54), some (.int n), some (.int a), some (.int b), some (.int c), some (.int d), some (.int e)] [.int (b2i (tn_in b 0 255))] σ _ _
            refine ex_if_eq (q := 48) (q2 := 24) dX8_feed_21 rfl rfl (fun h21 => ?_) (fun h21 => ?_)
            · have hb21 : (tn_in b 0 255) = false := b2i_0.mp h21
              refine ex_bipush (x := (-2)) dX8_feed_48 rfl rfl ?_
              exact ex_iret dX8_feed_50 rfl rfl rfl
            · have hb21 : (tn_in b 0 255) = true := b2i_n0.mp h21
              refine ex_iload dX8_feed_24 rfl rfl ?_
              refine ex_callS (rest := []) dX8_feed_26 rfl qp_7_84 rfl rfl rfl (Nat.le_of_ble_eq_true rfl) (c_isByte _ _) (Nat.le_of_ble_eq_true rfl) ?_
              show Ex qm_lay _ mX8_feed 29 [some (.ref 54), some (.int n), some (.int a), some (.int b), some (.int c), some (.int d), some (.int e)] [.int (b2i (tn_in c 0 255))] σ _ _
              refine ex_if_eq (q := 48) (q2 := 32) dX8_feed_29 rfl rfl (fun h29 => ?_) (fun h29 => ?_)
              · have hb29 : (tn_in c 0 255) = false := b2i_0.mp h29
                refine ex_bipush (x := (-2)) dX8_feed_48 rfl rfl ?_
                exact ex_iret dX8_feed_50 rfl rfl rfl
              · have hb29 : (tn_in c 0 255) = true := b2i_n0.mp h29
                refine ex_iload dX8_feed_32 rfl rfl ?_
                refine ex_callS (rest := []) dX8_feed_34 rfl qp_7_84 rfl rfl rfl (Nat.le_of_ble_eq_true rfl) (c_isByte _ _) (Nat.le_of_ble_eq_true rfl) ?_
                show Ex qm_lay _ mX8_feed 37 [some (.ref 54), some (.int n), some (.int a), some (.int b), some (.int c), some (.int d), some (.int e)] [.int (b2i (tn_in d 0 255))] σ _ _
                refine ex_if_eq (q := 48) (q2 := 40) dX8_feed_37 rfl rfl (fun h37 => ?_) (fun h37 => ?_)
                · have hb37 : (tn_in d 0 255) = false := b2i_0.mp h37
                  refine ex_bipush (x := (-2)) dX8_feed_48 rfl rfl ?_
                  exact ex_iret dX8_feed_50 rfl rfl rfl
                · have hb37 : (tn_in d 0 255) = true := b2i_n0.mp h37
                  refine ex_iload dX8_feed_40 rfl rfl ?_
                  refine ex_callS (rest := []) dX8_feed_42 rfl qp_7_84 rfl rfl rfl (Nat.le_of_ble_eq_true rfl) (c_isByte _ _) (Nat.le_of_ble_eq_true rfl) ?_
                  show Ex qm_lay _ mX8_feed 45 [some (.ref 54), some (.int n), some (.int a), some (.int b), some (.int c), some (.int d), some (.int e)] [.int (b2i (tn_in e 0 255))] σ _ _
                  refine ex_if_ne (q := 51) (q2 := 48) dX8_feed_45 rfl rfl (fun h45 => ?_) (fun h45 => ?_)
                  · have hb45 : (tn_in e 0 255) = true := b2i_n0.mp h45
                    exact absurd ⟨decide_eq_true ⟨Int32.not_lt.mp h2, Int32.not_lt.mp h7⟩, hb14, hb21, hb29, hb37, hb45⟩ c1
                  · have hb45 : (tn_in e 0 255) = false := b2i_0.mp (Decidable.not_not.mp h45)
                    refine ex_bipush (x := (-2)) dX8_feed_48 rfl rfl ?_
                    exact ex_iret dX8_feed_50 rfl rfl rfl
    · have h : MR σ T := hM.1
      refine Ok.of (ls := [some (.ref 55), some (.int n), some (.int a), some (.int b), some (.int c), some (.int d), some (.int e), none]) (Nat.le_of_ble_eq_true rfl) rfl ?_
      refine ex_iload_n dX9_feed_0 rfl rfl ?_
      refine ex_iconst (x := 1) dX9_feed_1 rfl rfl ?_
      refine ex_iconst (x := 5) dX9_feed_2 rfl rfl ?_
      refine ex_callS (rest := []) dX9_feed_3 rfl qp_8_81 rfl rfl rfl (Nat.le_of_ble_eq_true rfl) (k_in _ _ _ _) (Nat.le_of_ble_eq_true rfl) ?_
      show Ex qm_lay _ mX9_feed 6 [some (.ref 55), some (.int n), some (.int a), some (.int b), some (.int c), some (.int d), some (.int e), none] [.int (b2i (tn_in n 1 5))] σ _ _
      refine ex_if_eq (q := 47) (q2 := 9) dX9_feed_6 rfl rfl (fun h6 => ?_) (fun h6 => ?_)
      · have hb6 : (tn_in n 1 5) = false := b2i_0.mp h6
        refine ex_bipush (x := (-2)) dX9_feed_47 rfl rfl ?_
        exact ex_iret dX9_feed_49 rfl rfl rfl
      · have hb6 : (tn_in n 1 5) = true := b2i_n0.mp h6
        refine ex_iload_n dX9_feed_9 rfl rfl ?_
        refine ex_callS (rest := []) dX9_feed_10 rfl qp_8_111 rfl rfl rfl (Nat.le_of_ble_eq_true rfl) (k_isByte _ _) (Nat.le_of_ble_eq_true rfl) ?_
        show Ex qm_lay _ mX9_feed 13 [some (.ref 55), some (.int n), some (.int a), some (.int b), some (.int c), some (.int d), some (.int e), none] [.int (b2i (tn_in a 0 255))] σ _ _
        refine ex_if_eq (q := 47) (q2 := 16) dX9_feed_13 rfl rfl (fun h13 => ?_) (fun h13 => ?_)
        · have hb13 : (tn_in a 0 255) = false := b2i_0.mp h13
          refine ex_bipush (x := (-2)) dX9_feed_47 rfl rfl ?_
          exact ex_iret dX9_feed_49 rfl rfl rfl
        · have hb13 : (tn_in a 0 255) = true := b2i_n0.mp h13
          refine ex_iload_n dX9_feed_16 rfl rfl ?_
          refine ex_callS (rest := []) dX9_feed_17 rfl qp_8_111 rfl rfl rfl (Nat.le_of_ble_eq_true rfl) (k_isByte _ _) (Nat.le_of_ble_eq_true rfl) ?_
          show Ex qm_lay _ mX9_feed 20 [some (.ref 55), some (.int n), some (.int a), some (.int b), some (.int c), some (.int d), some (.int e), none] [.int (b2i (tn_in b 0 255))] σ _ _
          refine ex_if_eq (q := 47) (q2 := 23) dX9_feed_20 rfl rfl (fun h20 => ?_) (fun h20 => ?_)
          · have hb20 : (tn_in b 0 255) = false := b2i_0.mp h20
            refine ex_bipush (x := (-2)) dX9_feed_47 rfl rfl ?_
            exact ex_iret dX9_feed_49 rfl rfl rfl
          · have hb20 : (tn_in b 0 255) = true := b2i_n0.mp h20
            refine ex_iload dX9_feed_23 rfl rfl ?_
            refine ex_callS (rest := []) dX9_feed_25 rfl qp_8_111 rfl rfl rfl (Nat.le_of_ble_eq_true rfl) (k_isByte _ _) (Nat.le_of_ble_eq_true rfl) ?_
            show Ex qm_lay _ mX9_feed 28 [some (.ref 55), some (.int n), some (.int a), some (.int b), some (.int c), some (.int d), some (.int e), none] [.int (b2i (tn_in c 0 255))] σ _ _
            refine ex_if_eq (q := 47) (q2 := 31) dX9_feed_28 rfl rfl (fun h28 => ?_) (fun h28 => ?_)
            · have hb28 : (tn_in c 0 255) = false := b2i_0.mp h28
              refine ex_bipush (x := (-2)) dX9_feed_47 rfl rfl ?_
              exact ex_iret dX9_feed_49 rfl rfl rfl
            · have hb28 : (tn_in c 0 255) = true := b2i_n0.mp h28
              refine ex_iload dX9_feed_31 rfl rfl ?_
              refine ex_callS (rest := []) dX9_feed_33 rfl qp_8_111 rfl rfl rfl (Nat.le_of_ble_eq_true rfl) (k_isByte _ _) (Nat.le_of_ble_eq_true rfl) ?_
              show Ex qm_lay _ mX9_feed 36 [some (.ref 55), some (.int n), some (.int a), some (.int b), some (.int c), some (.int d), some (.int e), none] [.int (b2i (tn_in d 0 255))] σ _ _
              refine ex_if_eq (q := 47) (q2 := 39) dX9_feed_36 rfl rfl (fun h36 => ?_) (fun h36 => ?_)
              · have hb36 : (tn_in d 0 255) = false := b2i_0.mp h36
                refine ex_bipush (x := (-2)) dX9_feed_47 rfl rfl ?_
                exact ex_iret dX9_feed_49 rfl rfl rfl
              · have hb36 : (tn_in d 0 255) = true := b2i_n0.mp h36
                refine ex_iload dX9_feed_39 rfl rfl ?_
                refine ex_callS (rest := []) dX9_feed_41 rfl qp_8_111 rfl rfl rfl (Nat.le_of_ble_eq_true rfl) (k_isByte _ _) (Nat.le_of_ble_eq_true rfl) ?_
                show Ex qm_lay _ mX9_feed 44 [some (.ref 55), some (.int n), some (.int a), some (.int b), some (.int c), some (.int d), some (.int e), none] [.int (b2i (tn_in e 0 255))] σ _ _
                refine ex_if_ne (q := 50) (q2 := 47) dX9_feed_44 rfl rfl (fun h44 => ?_) (fun h44 => ?_)
                · have hb44 : (tn_in e 0 255) = true := b2i_n0.mp h44
                  exact absurd ⟨hb6, hb13, hb20, hb28, hb36, hb44⟩ c1
                · have hb44 : (tn_in e 0 255) = false := b2i_0.mp (Decidable.not_not.mp h44)
                  refine ex_bipush (x := (-2)) dX9_feed_47 rfl rfl ?_
                  exact ex_iret dX9_feed_49 rfl rfl rfl

set_option maxHeartbeats 2000000 in
theorem k_isUnder {lay : List qm_LE} (σ : qm_St) {k a : Nat} (hk : k ≤ 5) (ha : a ≤ 5) : Ok lay 0 mX9_isUnder [.int (nI k), .int (nI a)] σ (some (.int (b2i (tn_of k a)))) σ := by
  have hk6 : k = 0 ∨ k = 1 ∨ k = 2 ∨ k = 3 ∨ k = 4 ∨ k = 5 := by omega
  have ha6 : a = 0 ∨ a = 1 ∨ a = 2 ∨ a = 3 ∨ a = 4 ∨ a = 5 := by omega
  rcases hk6 with rfl | rfl | rfl | rfl | rfl | rfl <;> rcases ha6 with rfl | rfl | rfl | rfl | rfl | rfl
  · refine Ok.of (ls := [some (.int 0), some (.int 0)]) (Nat.le_of_ble_eq_true rfl) rfl ?_
    refine ex_iload_n dX9_isUnder_0 rfl rfl ?_
    refine ex_if_eq (q := 29) (q2 := 4) dX9_isUnder_1 rfl rfl (fun _ => ?_) (fun hh => absurd (by decide) hh)
    refine ex_iconst (x := 1) dX9_isUnder_29 rfl rfl ?_
    refine ex_goto (q := 34) dX9_isUnder_30 rfl ?_
    exact ex_zret dX9_isUnder_34 rfl (by decide) rfl rfl
  · refine Ok.of (ls := [some (.int 0), some (.int 1)]) (Nat.le_of_ble_eq_true rfl) rfl ?_
    refine ex_iload_n dX9_isUnder_0 rfl rfl ?_
    refine ex_if_eq (q := 29) (q2 := 4) dX9_isUnder_1 rfl rfl (fun hh => absurd hh (by decide)) (fun _ => ?_)
    refine ex_iload_n dX9_isUnder_4 rfl rfl ?_
    refine ex_iload_n dX9_isUnder_5 rfl rfl ?_
    refine ex_icmp_eq (q := 29) (q2 := 9) dX9_isUnder_6 rfl rfl (fun hh => absurd hh (by decide)) (fun _ => ?_)
    refine ex_iload_n dX9_isUnder_9 rfl rfl ?_
    refine ex_iconst (x := 1) dX9_isUnder_10 rfl rfl ?_
    refine ex_icmp_ne (q := 19) (q2 := 14) dX9_isUnder_11 rfl rfl (fun hh => absurd hh (by decide)) (fun _ => ?_)
    refine ex_iload_n dX9_isUnder_14 rfl rfl ?_
    refine ex_iconst (x := 3) dX9_isUnder_15 rfl rfl ?_
    refine ex_icmp_eq (q := 29) (q2 := 19) dX9_isUnder_16 rfl rfl (fun hh => absurd hh (by decide)) (fun _ => ?_)
    refine ex_iload_n dX9_isUnder_19 rfl rfl ?_
    refine ex_iconst (x := 2) dX9_isUnder_20 rfl rfl ?_
    refine ex_icmp_ne (q := 33) (q2 := 24) dX9_isUnder_21 rfl rfl (fun _ => ?_) (fun hh => absurd (by decide) hh)
    refine ex_iconst (x := 0) dX9_isUnder_33 rfl rfl ?_
    exact ex_zret dX9_isUnder_34 rfl (by decide) rfl rfl
  · refine Ok.of (ls := [some (.int 0), some (.int 2)]) (Nat.le_of_ble_eq_true rfl) rfl ?_
    refine ex_iload_n dX9_isUnder_0 rfl rfl ?_
    refine ex_if_eq (q := 29) (q2 := 4) dX9_isUnder_1 rfl rfl (fun hh => absurd hh (by decide)) (fun _ => ?_)
    refine ex_iload_n dX9_isUnder_4 rfl rfl ?_
    refine ex_iload_n dX9_isUnder_5 rfl rfl ?_
    refine ex_icmp_eq (q := 29) (q2 := 9) dX9_isUnder_6 rfl rfl (fun hh => absurd hh (by decide)) (fun _ => ?_)
    refine ex_iload_n dX9_isUnder_9 rfl rfl ?_
    refine ex_iconst (x := 1) dX9_isUnder_10 rfl rfl ?_
    refine ex_icmp_ne (q := 19) (q2 := 14) dX9_isUnder_11 rfl rfl (fun _ => ?_) (fun hh => absurd (by decide) hh)
    refine ex_iload_n dX9_isUnder_19 rfl rfl ?_
    refine ex_iconst (x := 2) dX9_isUnder_20 rfl rfl ?_
    refine ex_icmp_ne (q := 33) (q2 := 24) dX9_isUnder_21 rfl rfl (fun hh => absurd hh (by decide)) (fun _ => ?_)
    refine ex_iload_n dX9_isUnder_24 rfl rfl ?_
    refine ex_iconst (x := 4) dX9_isUnder_25 rfl rfl ?_
    refine ex_icmp_ne (q := 33) (q2 := 29) dX9_isUnder_26 rfl rfl (fun _ => ?_) (fun hh => absurd (by decide) hh)
    refine ex_iconst (x := 0) dX9_isUnder_33 rfl rfl ?_
    exact ex_zret dX9_isUnder_34 rfl (by decide) rfl rfl
  · refine Ok.of (ls := [some (.int 0), some (.int 3)]) (Nat.le_of_ble_eq_true rfl) rfl ?_
    refine ex_iload_n dX9_isUnder_0 rfl rfl ?_
    refine ex_if_eq (q := 29) (q2 := 4) dX9_isUnder_1 rfl rfl (fun hh => absurd hh (by decide)) (fun _ => ?_)
    refine ex_iload_n dX9_isUnder_4 rfl rfl ?_
    refine ex_iload_n dX9_isUnder_5 rfl rfl ?_
    refine ex_icmp_eq (q := 29) (q2 := 9) dX9_isUnder_6 rfl rfl (fun hh => absurd hh (by decide)) (fun _ => ?_)
    refine ex_iload_n dX9_isUnder_9 rfl rfl ?_
    refine ex_iconst (x := 1) dX9_isUnder_10 rfl rfl ?_
    refine ex_icmp_ne (q := 19) (q2 := 14) dX9_isUnder_11 rfl rfl (fun _ => ?_) (fun hh => absurd (by decide) hh)
    refine ex_iload_n dX9_isUnder_19 rfl rfl ?_
    refine ex_iconst (x := 2) dX9_isUnder_20 rfl rfl ?_
    refine ex_icmp_ne (q := 33) (q2 := 24) dX9_isUnder_21 rfl rfl (fun _ => ?_) (fun hh => absurd (by decide) hh)
    refine ex_iconst (x := 0) dX9_isUnder_33 rfl rfl ?_
    exact ex_zret dX9_isUnder_34 rfl (by decide) rfl rfl
  · refine Ok.of (ls := [some (.int 0), some (.int 4)]) (Nat.le_of_ble_eq_true rfl) rfl ?_
    refine ex_iload_n dX9_isUnder_0 rfl rfl ?_
    refine ex_if_eq (q := 29) (q2 := 4) dX9_isUnder_1 rfl rfl (fun hh => absurd hh (by decide)) (fun _ => ?_)
    refine ex_iload_n dX9_isUnder_4 rfl rfl ?_
    refine ex_iload_n dX9_isUnder_5 rfl rfl ?_
    refine ex_icmp_eq (q := 29) (q2 := 9) dX9_isUnder_6 rfl rfl (fun hh => absurd hh (by decide)) (fun _ => ?_)
    refine ex_iload_n dX9_isUnder_9 rfl rfl ?_
    refine ex_iconst (x := 1) dX9_isUnder_10 rfl rfl ?_
    refine ex_icmp_ne (q := 19) (q2 := 14) dX9_isUnder_11 rfl rfl (fun _ => ?_) (fun hh => absurd (by decide) hh)
    refine ex_iload_n dX9_isUnder_19 rfl rfl ?_
    refine ex_iconst (x := 2) dX9_isUnder_20 rfl rfl ?_
    refine ex_icmp_ne (q := 33) (q2 := 24) dX9_isUnder_21 rfl rfl (fun _ => ?_) (fun hh => absurd (by decide) hh)
    refine ex_iconst (x := 0) dX9_isUnder_33 rfl rfl ?_
    exact ex_zret dX9_isUnder_34 rfl (by decide) rfl rfl
  · refine Ok.of (ls := [some (.int 0), some (.int 5)]) (Nat.le_of_ble_eq_true rfl) rfl ?_
    refine ex_iload_n dX9_isUnder_0 rfl rfl ?_
    refine ex_if_eq (q := 29) (q2 := 4) dX9_isUnder_1 rfl rfl (fun hh => absurd hh (by decide)) (fun _ => ?_)
    refine ex_iload_n dX9_isUnder_4 rfl rfl ?_
    refine ex_iload_n dX9_isUnder_5 rfl rfl ?_
    refine ex_icmp_eq (q := 29) (q2 := 9) dX9_isUnder_6 rfl rfl (fun hh => absurd hh (by decide)) (fun _ => ?_)
    refine ex_iload_n dX9_isUnder_9 rfl rfl ?_
    refine ex_iconst (x := 1) dX9_isUnder_10 rfl rfl ?_
    refine ex_icmp_ne (q := 19) (q2 := 14) dX9_isUnder_11 rfl rfl (fun _ => ?_) (fun hh => absurd (by decide) hh)
    refine ex_iload_n dX9_isUnder_19 rfl rfl ?_
    refine ex_iconst (x := 2) dX9_isUnder_20 rfl rfl ?_
    refine ex_icmp_ne (q := 33) (q2 := 24) dX9_isUnder_21 rfl rfl (fun _ => ?_) (fun hh => absurd (by decide) hh)
    refine ex_iconst (x := 0) dX9_isUnder_33 rfl rfl ?_
    exact ex_zret dX9_isUnder_34 rfl (by decide) rfl rfl
  · refine Ok.of (ls := [some (.int 1), some (.int 0)]) (Nat.le_of_ble_eq_true rfl) rfl ?_
    refine ex_iload_n dX9_isUnder_0 rfl rfl ?_
    refine ex_if_eq (q := 29) (q2 := 4) dX9_isUnder_1 rfl rfl (fun _ => ?_) (fun hh => absurd (by decide) hh)
    refine ex_iconst (x := 1) dX9_isUnder_29 rfl rfl ?_
    refine ex_goto (q := 34) dX9_isUnder_30 rfl ?_
    exact ex_zret dX9_isUnder_34 rfl (by decide) rfl rfl
  · refine Ok.of (ls := [some (.int 1), some (.int 1)]) (Nat.le_of_ble_eq_true rfl) rfl ?_
    refine ex_iload_n dX9_isUnder_0 rfl rfl ?_
    refine ex_if_eq (q := 29) (q2 := 4) dX9_isUnder_1 rfl rfl (fun hh => absurd hh (by decide)) (fun _ => ?_)
    refine ex_iload_n dX9_isUnder_4 rfl rfl ?_
    refine ex_iload_n dX9_isUnder_5 rfl rfl ?_
    refine ex_icmp_eq (q := 29) (q2 := 9) dX9_isUnder_6 rfl rfl (fun _ => ?_) (fun hh => absurd (by decide) hh)
    refine ex_iconst (x := 1) dX9_isUnder_29 rfl rfl ?_
    refine ex_goto (q := 34) dX9_isUnder_30 rfl ?_
    exact ex_zret dX9_isUnder_34 rfl (by decide) rfl rfl
  · refine Ok.of (ls := [some (.int 1), some (.int 2)]) (Nat.le_of_ble_eq_true rfl) rfl ?_
    refine ex_iload_n dX9_isUnder_0 rfl rfl ?_
    refine ex_if_eq (q := 29) (q2 := 4) dX9_isUnder_1 rfl rfl (fun hh => absurd hh (by decide)) (fun _ => ?_)
    refine ex_iload_n dX9_isUnder_4 rfl rfl ?_
    refine ex_iload_n dX9_isUnder_5 rfl rfl ?_
    refine ex_icmp_eq (q := 29) (q2 := 9) dX9_isUnder_6 rfl rfl (fun hh => absurd hh (by decide)) (fun _ => ?_)
    refine ex_iload_n dX9_isUnder_9 rfl rfl ?_
    refine ex_iconst (x := 1) dX9_isUnder_10 rfl rfl ?_
    refine ex_icmp_ne (q := 19) (q2 := 14) dX9_isUnder_11 rfl rfl (fun _ => ?_) (fun hh => absurd (by decide) hh)
    refine ex_iload_n dX9_isUnder_19 rfl rfl ?_
    refine ex_iconst (x := 2) dX9_isUnder_20 rfl rfl ?_
    refine ex_icmp_ne (q := 33) (q2 := 24) dX9_isUnder_21 rfl rfl (fun hh => absurd hh (by decide)) (fun _ => ?_)
    refine ex_iload_n dX9_isUnder_24 rfl rfl ?_
    refine ex_iconst (x := 4) dX9_isUnder_25 rfl rfl ?_
    refine ex_icmp_ne (q := 33) (q2 := 29) dX9_isUnder_26 rfl rfl (fun _ => ?_) (fun hh => absurd (by decide) hh)
    refine ex_iconst (x := 0) dX9_isUnder_33 rfl rfl ?_
    exact ex_zret dX9_isUnder_34 rfl (by decide) rfl rfl
  · refine Ok.of (ls := [some (.int 1), some (.int 3)]) (Nat.le_of_ble_eq_true rfl) rfl ?_
    refine ex_iload_n dX9_isUnder_0 rfl rfl ?_
    refine ex_if_eq (q := 29) (q2 := 4) dX9_isUnder_1 rfl rfl (fun hh => absurd hh (by decide)) (fun _ => ?_)
    refine ex_iload_n dX9_isUnder_4 rfl rfl ?_
    refine ex_iload_n dX9_isUnder_5 rfl rfl ?_
    refine ex_icmp_eq (q := 29) (q2 := 9) dX9_isUnder_6 rfl rfl (fun hh => absurd hh (by decide)) (fun _ => ?_)
    refine ex_iload_n dX9_isUnder_9 rfl rfl ?_
    refine ex_iconst (x := 1) dX9_isUnder_10 rfl rfl ?_
    refine ex_icmp_ne (q := 19) (q2 := 14) dX9_isUnder_11 rfl rfl (fun _ => ?_) (fun hh => absurd (by decide) hh)
    refine ex_iload_n dX9_isUnder_19 rfl rfl ?_
    refine ex_iconst (x := 2) dX9_isUnder_20 rfl rfl ?_
    refine ex_icmp_ne (q := 33) (q2 := 24) dX9_isUnder_21 rfl rfl (fun _ => ?_) (fun hh => absurd (by decide) hh)
    refine ex_iconst (x := 0) dX9_isUnder_33 rfl rfl ?_
    exact ex_zret dX9_isUnder_34 rfl (by decide) rfl rfl
  · refine Ok.of (ls := [some (.int 1), some (.int 4)]) (Nat.le_of_ble_eq_true rfl) rfl ?_
    refine ex_iload_n dX9_isUnder_0 rfl rfl ?_
    refine ex_if_eq (q := 29) (q2 := 4) dX9_isUnder_1 rfl rfl (fun hh => absurd hh (by decide)) (fun _ => ?_)
    refine ex_iload_n dX9_isUnder_4 rfl rfl ?_
    refine ex_iload_n dX9_isUnder_5 rfl rfl ?_
    refine ex_icmp_eq (q := 29) (q2 := 9) dX9_isUnder_6 rfl rfl (fun hh => absurd hh (by decide)) (fun _ => ?_)
    refine ex_iload_n dX9_isUnder_9 rfl rfl ?_
    refine ex_iconst (x := 1) dX9_isUnder_10 rfl rfl ?_
    refine ex_icmp_ne (q := 19) (q2 := 14) dX9_isUnder_11 rfl rfl (fun _ => ?_) (fun hh => absurd (by decide) hh)
    refine ex_iload_n dX9_isUnder_19 rfl rfl ?_
    refine ex_iconst (x := 2) dX9_isUnder_20 rfl rfl ?_
    refine ex_icmp_ne (q := 33) (q2 := 24) dX9_isUnder_21 rfl rfl (fun _ => ?_) (fun hh => absurd (by decide) hh)
    refine ex_iconst (x := 0) dX9_isUnder_33 rfl rfl ?_
    exact ex_zret dX9_isUnder_34 rfl (by decide) rfl rfl
  · refine Ok.of (ls := [some (.int 1), some (.int 5)]) (Nat.le_of_ble_eq_true rfl) rfl ?_
    refine ex_iload_n dX9_isUnder_0 rfl rfl ?_
    refine ex_if_eq (q := 29) (q2 := 4) dX9_isUnder_1 rfl rfl (fun hh => absurd hh (by decide)) (fun _ => ?_)
    refine ex_iload_n dX9_isUnder_4 rfl rfl ?_
    refine ex_iload_n dX9_isUnder_5 rfl rfl ?_
    refine ex_icmp_eq (q := 29) (q2 := 9) dX9_isUnder_6 rfl rfl (fun hh => absurd hh (by decide)) (fun _ => ?_)
    refine ex_iload_n dX9_isUnder_9 rfl rfl ?_
    refine ex_iconst (x := 1) dX9_isUnder_10 rfl rfl ?_
    refine ex_icmp_ne (q := 19) (q2 := 14) dX9_isUnder_11 rfl rfl (fun _ => ?_) (fun hh => absurd (by decide) hh)
    refine ex_iload_n dX9_isUnder_19 rfl rfl ?_
    refine ex_iconst (x := 2) dX9_isUnder_20 rfl rfl ?_
    refine ex_icmp_ne (q := 33) (q2 := 24) dX9_isUnder_21 rfl rfl (fun _ => ?_) (fun hh => absurd (by decide) hh)
    refine ex_iconst (x := 0) dX9_isUnder_33 rfl rfl ?_
    exact ex_zret dX9_isUnder_34 rfl (by decide) rfl rfl
  · refine Ok.of (ls := [some (.int 2), some (.int 0)]) (Nat.le_of_ble_eq_true rfl) rfl ?_
    refine ex_iload_n dX9_isUnder_0 rfl rfl ?_
    refine ex_if_eq (q := 29) (q2 := 4) dX9_isUnder_1 rfl rfl (fun _ => ?_) (fun hh => absurd (by decide) hh)
    refine ex_iconst (x := 1) dX9_isUnder_29 rfl rfl ?_
    refine ex_goto (q := 34) dX9_isUnder_30 rfl ?_
    exact ex_zret dX9_isUnder_34 rfl (by decide) rfl rfl
  · refine Ok.of (ls := [some (.int 2), some (.int 1)]) (Nat.le_of_ble_eq_true rfl) rfl ?_
    refine ex_iload_n dX9_isUnder_0 rfl rfl ?_
    refine ex_if_eq (q := 29) (q2 := 4) dX9_isUnder_1 rfl rfl (fun hh => absurd hh (by decide)) (fun _ => ?_)
    refine ex_iload_n dX9_isUnder_4 rfl rfl ?_
    refine ex_iload_n dX9_isUnder_5 rfl rfl ?_
    refine ex_icmp_eq (q := 29) (q2 := 9) dX9_isUnder_6 rfl rfl (fun hh => absurd hh (by decide)) (fun _ => ?_)
    refine ex_iload_n dX9_isUnder_9 rfl rfl ?_
    refine ex_iconst (x := 1) dX9_isUnder_10 rfl rfl ?_
    refine ex_icmp_ne (q := 19) (q2 := 14) dX9_isUnder_11 rfl rfl (fun hh => absurd hh (by decide)) (fun _ => ?_)
    refine ex_iload_n dX9_isUnder_14 rfl rfl ?_
    refine ex_iconst (x := 3) dX9_isUnder_15 rfl rfl ?_
    refine ex_icmp_eq (q := 29) (q2 := 19) dX9_isUnder_16 rfl rfl (fun hh => absurd hh (by decide)) (fun _ => ?_)
    refine ex_iload_n dX9_isUnder_19 rfl rfl ?_
    refine ex_iconst (x := 2) dX9_isUnder_20 rfl rfl ?_
    refine ex_icmp_ne (q := 33) (q2 := 24) dX9_isUnder_21 rfl rfl (fun _ => ?_) (fun hh => absurd (by decide) hh)
    refine ex_iconst (x := 0) dX9_isUnder_33 rfl rfl ?_
    exact ex_zret dX9_isUnder_34 rfl (by decide) rfl rfl
  · refine Ok.of (ls := [some (.int 2), some (.int 2)]) (Nat.le_of_ble_eq_true rfl) rfl ?_
    refine ex_iload_n dX9_isUnder_0 rfl rfl ?_
    refine ex_if_eq (q := 29) (q2 := 4) dX9_isUnder_1 rfl rfl (fun hh => absurd hh (by decide)) (fun _ => ?_)
    refine ex_iload_n dX9_isUnder_4 rfl rfl ?_
    refine ex_iload_n dX9_isUnder_5 rfl rfl ?_
    refine ex_icmp_eq (q := 29) (q2 := 9) dX9_isUnder_6 rfl rfl (fun _ => ?_) (fun hh => absurd (by decide) hh)
    refine ex_iconst (x := 1) dX9_isUnder_29 rfl rfl ?_
    refine ex_goto (q := 34) dX9_isUnder_30 rfl ?_
    exact ex_zret dX9_isUnder_34 rfl (by decide) rfl rfl
  · refine Ok.of (ls := [some (.int 2), some (.int 3)]) (Nat.le_of_ble_eq_true rfl) rfl ?_
    refine ex_iload_n dX9_isUnder_0 rfl rfl ?_
    refine ex_if_eq (q := 29) (q2 := 4) dX9_isUnder_1 rfl rfl (fun hh => absurd hh (by decide)) (fun _ => ?_)
    refine ex_iload_n dX9_isUnder_4 rfl rfl ?_
    refine ex_iload_n dX9_isUnder_5 rfl rfl ?_
    refine ex_icmp_eq (q := 29) (q2 := 9) dX9_isUnder_6 rfl rfl (fun hh => absurd hh (by decide)) (fun _ => ?_)
    refine ex_iload_n dX9_isUnder_9 rfl rfl ?_
    refine ex_iconst (x := 1) dX9_isUnder_10 rfl rfl ?_
    refine ex_icmp_ne (q := 19) (q2 := 14) dX9_isUnder_11 rfl rfl (fun _ => ?_) (fun hh => absurd (by decide) hh)
    refine ex_iload_n dX9_isUnder_19 rfl rfl ?_
    refine ex_iconst (x := 2) dX9_isUnder_20 rfl rfl ?_
    refine ex_icmp_ne (q := 33) (q2 := 24) dX9_isUnder_21 rfl rfl (fun _ => ?_) (fun hh => absurd (by decide) hh)
    refine ex_iconst (x := 0) dX9_isUnder_33 rfl rfl ?_
    exact ex_zret dX9_isUnder_34 rfl (by decide) rfl rfl
  · refine Ok.of (ls := [some (.int 2), some (.int 4)]) (Nat.le_of_ble_eq_true rfl) rfl ?_
    refine ex_iload_n dX9_isUnder_0 rfl rfl ?_
    refine ex_if_eq (q := 29) (q2 := 4) dX9_isUnder_1 rfl rfl (fun hh => absurd hh (by decide)) (fun _ => ?_)
    refine ex_iload_n dX9_isUnder_4 rfl rfl ?_
    refine ex_iload_n dX9_isUnder_5 rfl rfl ?_
    refine ex_icmp_eq (q := 29) (q2 := 9) dX9_isUnder_6 rfl rfl (fun hh => absurd hh (by decide)) (fun _ => ?_)
    refine ex_iload_n dX9_isUnder_9 rfl rfl ?_
    refine ex_iconst (x := 1) dX9_isUnder_10 rfl rfl ?_
    refine ex_icmp_ne (q := 19) (q2 := 14) dX9_isUnder_11 rfl rfl (fun _ => ?_) (fun hh => absurd (by decide) hh)
    refine ex_iload_n dX9_isUnder_19 rfl rfl ?_
    refine ex_iconst (x := 2) dX9_isUnder_20 rfl rfl ?_
    refine ex_icmp_ne (q := 33) (q2 := 24) dX9_isUnder_21 rfl rfl (fun _ => ?_) (fun hh => absurd (by decide) hh)
    refine ex_iconst (x := 0) dX9_isUnder_33 rfl rfl ?_
    exact ex_zret dX9_isUnder_34 rfl (by decide) rfl rfl
  · refine Ok.of (ls := [some (.int 2), some (.int 5)]) (Nat.le_of_ble_eq_true rfl) rfl ?_
    refine ex_iload_n dX9_isUnder_0 rfl rfl ?_
    refine ex_if_eq (q := 29) (q2 := 4) dX9_isUnder_1 rfl rfl (fun hh => absurd hh (by decide)) (fun _ => ?_)
    refine ex_iload_n dX9_isUnder_4 rfl rfl ?_
    refine ex_iload_n dX9_isUnder_5 rfl rfl ?_
    refine ex_icmp_eq (q := 29) (q2 := 9) dX9_isUnder_6 rfl rfl (fun hh => absurd hh (by decide)) (fun _ => ?_)
    refine ex_iload_n dX9_isUnder_9 rfl rfl ?_
    refine ex_iconst (x := 1) dX9_isUnder_10 rfl rfl ?_
    refine ex_icmp_ne (q := 19) (q2 := 14) dX9_isUnder_11 rfl rfl (fun _ => ?_) (fun hh => absurd (by decide) hh)
    refine ex_iload_n dX9_isUnder_19 rfl rfl ?_
    refine ex_iconst (x := 2) dX9_isUnder_20 rfl rfl ?_
    refine ex_icmp_ne (q := 33) (q2 := 24) dX9_isUnder_21 rfl rfl (fun _ => ?_) (fun hh => absurd (by decide) hh)
    refine ex_iconst (x := 0) dX9_isUnder_33 rfl rfl ?_
    exact ex_zret dX9_isUnder_34 rfl (by decide) rfl rfl
  · refine Ok.of (ls := [some (.int 3), some (.int 0)]) (Nat.le_of_ble_eq_true rfl) rfl ?_
    refine ex_iload_n dX9_isUnder_0 rfl rfl ?_
    refine ex_if_eq (q := 29) (q2 := 4) dX9_isUnder_1 rfl rfl (fun _ => ?_) (fun hh => absurd (by decide) hh)
    refine ex_iconst (x := 1) dX9_isUnder_29 rfl rfl ?_
    refine ex_goto (q := 34) dX9_isUnder_30 rfl ?_
    exact ex_zret dX9_isUnder_34 rfl (by decide) rfl rfl
  · refine Ok.of (ls := [some (.int 3), some (.int 1)]) (Nat.le_of_ble_eq_true rfl) rfl ?_
    refine ex_iload_n dX9_isUnder_0 rfl rfl ?_
    refine ex_if_eq (q := 29) (q2 := 4) dX9_isUnder_1 rfl rfl (fun hh => absurd hh (by decide)) (fun _ => ?_)
    refine ex_iload_n dX9_isUnder_4 rfl rfl ?_
    refine ex_iload_n dX9_isUnder_5 rfl rfl ?_
    refine ex_icmp_eq (q := 29) (q2 := 9) dX9_isUnder_6 rfl rfl (fun hh => absurd hh (by decide)) (fun _ => ?_)
    refine ex_iload_n dX9_isUnder_9 rfl rfl ?_
    refine ex_iconst (x := 1) dX9_isUnder_10 rfl rfl ?_
    refine ex_icmp_ne (q := 19) (q2 := 14) dX9_isUnder_11 rfl rfl (fun hh => absurd hh (by decide)) (fun _ => ?_)
    refine ex_iload_n dX9_isUnder_14 rfl rfl ?_
    refine ex_iconst (x := 3) dX9_isUnder_15 rfl rfl ?_
    refine ex_icmp_eq (q := 29) (q2 := 19) dX9_isUnder_16 rfl rfl (fun _ => ?_) (fun hh => absurd (by decide) hh)
    refine ex_iconst (x := 1) dX9_isUnder_29 rfl rfl ?_
    refine ex_goto (q := 34) dX9_isUnder_30 rfl ?_
    exact ex_zret dX9_isUnder_34 rfl (by decide) rfl rfl
  · refine Ok.of (ls := [some (.int 3), some (.int 2)]) (Nat.le_of_ble_eq_true rfl) rfl ?_
    refine ex_iload_n dX9_isUnder_0 rfl rfl ?_
    refine ex_if_eq (q := 29) (q2 := 4) dX9_isUnder_1 rfl rfl (fun hh => absurd hh (by decide)) (fun _ => ?_)
    refine ex_iload_n dX9_isUnder_4 rfl rfl ?_
    refine ex_iload_n dX9_isUnder_5 rfl rfl ?_
    refine ex_icmp_eq (q := 29) (q2 := 9) dX9_isUnder_6 rfl rfl (fun hh => absurd hh (by decide)) (fun _ => ?_)
    refine ex_iload_n dX9_isUnder_9 rfl rfl ?_
    refine ex_iconst (x := 1) dX9_isUnder_10 rfl rfl ?_
    refine ex_icmp_ne (q := 19) (q2 := 14) dX9_isUnder_11 rfl rfl (fun _ => ?_) (fun hh => absurd (by decide) hh)
    refine ex_iload_n dX9_isUnder_19 rfl rfl ?_
    refine ex_iconst (x := 2) dX9_isUnder_20 rfl rfl ?_
    refine ex_icmp_ne (q := 33) (q2 := 24) dX9_isUnder_21 rfl rfl (fun hh => absurd hh (by decide)) (fun _ => ?_)
    refine ex_iload_n dX9_isUnder_24 rfl rfl ?_
    refine ex_iconst (x := 4) dX9_isUnder_25 rfl rfl ?_
    refine ex_icmp_ne (q := 33) (q2 := 29) dX9_isUnder_26 rfl rfl (fun _ => ?_) (fun hh => absurd (by decide) hh)
    refine ex_iconst (x := 0) dX9_isUnder_33 rfl rfl ?_
    exact ex_zret dX9_isUnder_34 rfl (by decide) rfl rfl
  · refine Ok.of (ls := [some (.int 3), some (.int 3)]) (Nat.le_of_ble_eq_true rfl) rfl ?_
    refine ex_iload_n dX9_isUnder_0 rfl rfl ?_
    refine ex_if_eq (q := 29) (q2 := 4) dX9_isUnder_1 rfl rfl (fun hh => absurd hh (by decide)) (fun _ => ?_)
    refine ex_iload_n dX9_isUnder_4 rfl rfl ?_
    refine ex_iload_n dX9_isUnder_5 rfl rfl ?_
    refine ex_icmp_eq (q := 29) (q2 := 9) dX9_isUnder_6 rfl rfl (fun _ => ?_) (fun hh => absurd (by decide) hh)
    refine ex_iconst (x := 1) dX9_isUnder_29 rfl rfl ?_
    refine ex_goto (q := 34) dX9_isUnder_30 rfl ?_
    exact ex_zret dX9_isUnder_34 rfl (by decide) rfl rfl
  · refine Ok.of (ls := [some (.int 3), some (.int 4)]) (Nat.le_of_ble_eq_true rfl) rfl ?_
    refine ex_iload_n dX9_isUnder_0 rfl rfl ?_
    refine ex_if_eq (q := 29) (q2 := 4) dX9_isUnder_1 rfl rfl (fun hh => absurd hh (by decide)) (fun _ => ?_)
    refine ex_iload_n dX9_isUnder_4 rfl rfl ?_
    refine ex_iload_n dX9_isUnder_5 rfl rfl ?_
    refine ex_icmp_eq (q := 29) (q2 := 9) dX9_isUnder_6 rfl rfl (fun hh => absurd hh (by decide)) (fun _ => ?_)
    refine ex_iload_n dX9_isUnder_9 rfl rfl ?_
    refine ex_iconst (x := 1) dX9_isUnder_10 rfl rfl ?_
    refine ex_icmp_ne (q := 19) (q2 := 14) dX9_isUnder_11 rfl rfl (fun _ => ?_) (fun hh => absurd (by decide) hh)
    refine ex_iload_n dX9_isUnder_19 rfl rfl ?_
    refine ex_iconst (x := 2) dX9_isUnder_20 rfl rfl ?_
    refine ex_icmp_ne (q := 33) (q2 := 24) dX9_isUnder_21 rfl rfl (fun _ => ?_) (fun hh => absurd (by decide) hh)
    refine ex_iconst (x := 0) dX9_isUnder_33 rfl rfl ?_
    exact ex_zret dX9_isUnder_34 rfl (by decide) rfl rfl
  · refine Ok.of (ls := [some (.int 3), some (.int 5)]) (Nat.le_of_ble_eq_true rfl) rfl ?_
    refine ex_iload_n dX9_isUnder_0 rfl rfl ?_
    refine ex_if_eq (q := 29) (q2 := 4) dX9_isUnder_1 rfl rfl (fun hh => absurd hh (by decide)) (fun _ => ?_)
    refine ex_iload_n dX9_isUnder_4 rfl rfl ?_
    refine ex_iload_n dX9_isUnder_5 rfl rfl ?_
    refine ex_icmp_eq (q := 29) (q2 := 9) dX9_isUnder_6 rfl rfl (fun hh => absurd hh (by decide)) (fun _ => ?_)
    refine ex_iload_n dX9_isUnder_9 rfl rfl ?_
    refine ex_iconst (x := 1) dX9_isUnder_10 rfl rfl ?_
    refine ex_icmp_ne (q := 19) (q2 := 14) dX9_isUnder_11 rfl rfl (fun _ => ?_) (fun hh => absurd (by decide) hh)
    refine ex_iload_n dX9_isUnder_19 rfl rfl ?_
    refine ex_iconst (x := 2) dX9_isUnder_20 rfl rfl ?_
    refine ex_icmp_ne (q := 33) (q2 := 24) dX9_isUnder_21 rfl rfl (fun _ => ?_) (fun hh => absurd (by decide) hh)
    refine ex_iconst (x := 0) dX9_isUnder_33 rfl rfl ?_
    exact ex_zret dX9_isUnder_34 rfl (by decide) rfl rfl
  · refine Ok.of (ls := [some (.int 4), some (.int 0)]) (Nat.le_of_ble_eq_true rfl) rfl ?_
    refine ex_iload_n dX9_isUnder_0 rfl rfl ?_
    refine ex_if_eq (q := 29) (q2 := 4) dX9_isUnder_1 rfl rfl (fun _ => ?_) (fun hh => absurd (by decide) hh)
    refine ex_iconst (x := 1) dX9_isUnder_29 rfl rfl ?_
    refine ex_goto (q := 34) dX9_isUnder_30 rfl ?_
    exact ex_zret dX9_isUnder_34 rfl (by decide) rfl rfl
  · refine Ok.of (ls := [some (.int 4), some (.int 1)]) (Nat.le_of_ble_eq_true rfl) rfl ?_
    refine ex_iload_n dX9_isUnder_0 rfl rfl ?_
    refine ex_if_eq (q := 29) (q2 := 4) dX9_isUnder_1 rfl rfl (fun hh => absurd hh (by decide)) (fun _ => ?_)
    refine ex_iload_n dX9_isUnder_4 rfl rfl ?_
    refine ex_iload_n dX9_isUnder_5 rfl rfl ?_
    refine ex_icmp_eq (q := 29) (q2 := 9) dX9_isUnder_6 rfl rfl (fun hh => absurd hh (by decide)) (fun _ => ?_)
    refine ex_iload_n dX9_isUnder_9 rfl rfl ?_
    refine ex_iconst (x := 1) dX9_isUnder_10 rfl rfl ?_
    refine ex_icmp_ne (q := 19) (q2 := 14) dX9_isUnder_11 rfl rfl (fun hh => absurd hh (by decide)) (fun _ => ?_)
    refine ex_iload_n dX9_isUnder_14 rfl rfl ?_
    refine ex_iconst (x := 3) dX9_isUnder_15 rfl rfl ?_
    refine ex_icmp_eq (q := 29) (q2 := 19) dX9_isUnder_16 rfl rfl (fun hh => absurd hh (by decide)) (fun _ => ?_)
    refine ex_iload_n dX9_isUnder_19 rfl rfl ?_
    refine ex_iconst (x := 2) dX9_isUnder_20 rfl rfl ?_
    refine ex_icmp_ne (q := 33) (q2 := 24) dX9_isUnder_21 rfl rfl (fun _ => ?_) (fun hh => absurd (by decide) hh)
    refine ex_iconst (x := 0) dX9_isUnder_33 rfl rfl ?_
    exact ex_zret dX9_isUnder_34 rfl (by decide) rfl rfl
  · refine Ok.of (ls := [some (.int 4), some (.int 2)]) (Nat.le_of_ble_eq_true rfl) rfl ?_
    refine ex_iload_n dX9_isUnder_0 rfl rfl ?_
    refine ex_if_eq (q := 29) (q2 := 4) dX9_isUnder_1 rfl rfl (fun hh => absurd hh (by decide)) (fun _ => ?_)
    refine ex_iload_n dX9_isUnder_4 rfl rfl ?_
    refine ex_iload_n dX9_isUnder_5 rfl rfl ?_
    refine ex_icmp_eq (q := 29) (q2 := 9) dX9_isUnder_6 rfl rfl (fun hh => absurd hh (by decide)) (fun _ => ?_)
    refine ex_iload_n dX9_isUnder_9 rfl rfl ?_
    refine ex_iconst (x := 1) dX9_isUnder_10 rfl rfl ?_
    refine ex_icmp_ne (q := 19) (q2 := 14) dX9_isUnder_11 rfl rfl (fun _ => ?_) (fun hh => absurd (by decide) hh)
    refine ex_iload_n dX9_isUnder_19 rfl rfl ?_
    refine ex_iconst (x := 2) dX9_isUnder_20 rfl rfl ?_
    refine ex_icmp_ne (q := 33) (q2 := 24) dX9_isUnder_21 rfl rfl (fun hh => absurd hh (by decide)) (fun _ => ?_)
    refine ex_iload_n dX9_isUnder_24 rfl rfl ?_
    refine ex_iconst (x := 4) dX9_isUnder_25 rfl rfl ?_
    refine ex_icmp_ne (q := 33) (q2 := 29) dX9_isUnder_26 rfl rfl (fun hh => absurd hh (by decide)) (fun _ => ?_)
    refine ex_iconst (x := 1) dX9_isUnder_29 rfl rfl ?_
    refine ex_goto (q := 34) dX9_isUnder_30 rfl ?_
    exact ex_zret dX9_isUnder_34 rfl (by decide) rfl rfl
  · refine Ok.of (ls := [some (.int 4), some (.int 3)]) (Nat.le_of_ble_eq_true rfl) rfl ?_
    refine ex_iload_n dX9_isUnder_0 rfl rfl ?_
    refine ex_if_eq (q := 29) (q2 := 4) dX9_isUnder_1 rfl rfl (fun hh => absurd hh (by decide)) (fun _ => ?_)
    refine ex_iload_n dX9_isUnder_4 rfl rfl ?_
    refine ex_iload_n dX9_isUnder_5 rfl rfl ?_
    refine ex_icmp_eq (q := 29) (q2 := 9) dX9_isUnder_6 rfl rfl (fun hh => absurd hh (by decide)) (fun _ => ?_)
    refine ex_iload_n dX9_isUnder_9 rfl rfl ?_
    refine ex_iconst (x := 1) dX9_isUnder_10 rfl rfl ?_
    refine ex_icmp_ne (q := 19) (q2 := 14) dX9_isUnder_11 rfl rfl (fun _ => ?_) (fun hh => absurd (by decide) hh)
    refine ex_iload_n dX9_isUnder_19 rfl rfl ?_
    refine ex_iconst (x := 2) dX9_isUnder_20 rfl rfl ?_
    refine ex_icmp_ne (q := 33) (q2 := 24) dX9_isUnder_21 rfl rfl (fun _ => ?_) (fun hh => absurd (by decide) hh)
    refine ex_iconst (x := 0) dX9_isUnder_33 rfl rfl ?_
    exact ex_zret dX9_isUnder_34 rfl (by decide) rfl rfl
  · refine Ok.of (ls := [some (.int 4), some (.int 4)]) (Nat.le_of_ble_eq_true rfl) rfl ?_
    refine ex_iload_n dX9_isUnder_0 rfl rfl ?_
    refine ex_if_eq (q := 29) (q2 := 4) dX9_isUnder_1 rfl rfl (fun hh => absurd hh (by decide)) (fun _ => ?_)
    refine ex_iload_n dX9_isUnder_4 rfl rfl ?_
    refine ex_iload_n dX9_isUnder_5 rfl rfl ?_
    refine ex_icmp_eq (q := 29) (q2 := 9) dX9_isUnder_6 rfl rfl (fun _ => ?_) (fun hh => absurd (by decide) hh)
    refine ex_iconst (x := 1) dX9_isUnder_29 rfl rfl ?_
    refine ex_goto (q := 34) dX9_isUnder_30 rfl ?_
    exact ex_zret dX9_isUnder_34 rfl (by decide) rfl rfl
  · refine Ok.of (ls := [some (.int 4), some (.int 5)]) (Nat.le_of_ble_eq_true rfl) rfl ?_
    refine ex_iload_n dX9_isUnder_0 rfl rfl ?_
    refine ex_if_eq (q := 29) (q2 := 4) dX9_isUnder_1 rfl rfl (fun hh => absurd hh (by decide)) (fun _ => ?_)
    refine ex_iload_n dX9_isUnder_4 rfl rfl ?_
    refine ex_iload_n dX9_isUnder_5 rfl rfl ?_
    refine ex_icmp_eq (q := 29) (q2 := 9) dX9_isUnder_6 rfl rfl (fun hh => absurd hh (by decide)) (fun _ => ?_)
    refine ex_iload_n dX9_isUnder_9 rfl rfl ?_
    refine ex_iconst (x := 1) dX9_isUnder_10 rfl rfl ?_
    refine ex_icmp_ne (q := 19) (q2 := 14) dX9_isUnder_11 rfl rfl (fun _ => ?_) (fun hh => absurd (by decide) hh)
    refine ex_iload_n dX9_isUnder_19 rfl rfl ?_
    refine ex_iconst (x := 2) dX9_isUnder_20 rfl rfl ?_
    refine ex_icmp_ne (q := 33) (q2 := 24) dX9_isUnder_21 rfl rfl (fun _ => ?_) (fun hh => absurd (by decide) hh)
    refine ex_iconst (x := 0) dX9_isUnder_33 rfl rfl ?_
    exact ex_zret dX9_isUnder_34 rfl (by decide) rfl rfl
  · refine Ok.of (ls := [some (.int 5), some (.int 0)]) (Nat.le_of_ble_eq_true rfl) rfl ?_
    refine ex_iload_n dX9_isUnder_0 rfl rfl ?_
    refine ex_if_eq (q := 29) (q2 := 4) dX9_isUnder_1 rfl rfl (fun _ => ?_) (fun hh => absurd (by decide) hh)
    refine ex_iconst (x := 1) dX9_isUnder_29 rfl rfl ?_
    refine ex_goto (q := 34) dX9_isUnder_30 rfl ?_
    exact ex_zret dX9_isUnder_34 rfl (by decide) rfl rfl
  · refine Ok.of (ls := [some (.int 5), some (.int 1)]) (Nat.le_of_ble_eq_true rfl) rfl ?_
    refine ex_iload_n dX9_isUnder_0 rfl rfl ?_
    refine ex_if_eq (q := 29) (q2 := 4) dX9_isUnder_1 rfl rfl (fun hh => absurd hh (by decide)) (fun _ => ?_)
    refine ex_iload_n dX9_isUnder_4 rfl rfl ?_
    refine ex_iload_n dX9_isUnder_5 rfl rfl ?_
    refine ex_icmp_eq (q := 29) (q2 := 9) dX9_isUnder_6 rfl rfl (fun hh => absurd hh (by decide)) (fun _ => ?_)
    refine ex_iload_n dX9_isUnder_9 rfl rfl ?_
    refine ex_iconst (x := 1) dX9_isUnder_10 rfl rfl ?_
    refine ex_icmp_ne (q := 19) (q2 := 14) dX9_isUnder_11 rfl rfl (fun hh => absurd hh (by decide)) (fun _ => ?_)
    refine ex_iload_n dX9_isUnder_14 rfl rfl ?_
    refine ex_iconst (x := 3) dX9_isUnder_15 rfl rfl ?_
    refine ex_icmp_eq (q := 29) (q2 := 19) dX9_isUnder_16 rfl rfl (fun hh => absurd hh (by decide)) (fun _ => ?_)
    refine ex_iload_n dX9_isUnder_19 rfl rfl ?_
    refine ex_iconst (x := 2) dX9_isUnder_20 rfl rfl ?_
    refine ex_icmp_ne (q := 33) (q2 := 24) dX9_isUnder_21 rfl rfl (fun _ => ?_) (fun hh => absurd (by decide) hh)
    refine ex_iconst (x := 0) dX9_isUnder_33 rfl rfl ?_
    exact ex_zret dX9_isUnder_34 rfl (by decide) rfl rfl
  · refine Ok.of (ls := [some (.int 5), some (.int 2)]) (Nat.le_of_ble_eq_true rfl) rfl ?_
    refine ex_iload_n dX9_isUnder_0 rfl rfl ?_
    refine ex_if_eq (q := 29) (q2 := 4) dX9_isUnder_1 rfl rfl (fun hh => absurd hh (by decide)) (fun _ => ?_)
    refine ex_iload_n dX9_isUnder_4 rfl rfl ?_
    refine ex_iload_n dX9_isUnder_5 rfl rfl ?_
    refine ex_icmp_eq (q := 29) (q2 := 9) dX9_isUnder_6 rfl rfl (fun hh => absurd hh (by decide)) (fun _ => ?_)
    refine ex_iload_n dX9_isUnder_9 rfl rfl ?_
    refine ex_iconst (x := 1) dX9_isUnder_10 rfl rfl ?_
    refine ex_icmp_ne (q := 19) (q2 := 14) dX9_isUnder_11 rfl rfl (fun _ => ?_) (fun hh => absurd (by decide) hh)
    refine ex_iload_n dX9_isUnder_19 rfl rfl ?_
    refine ex_iconst (x := 2) dX9_isUnder_20 rfl rfl ?_
    refine ex_icmp_ne (q := 33) (q2 := 24) dX9_isUnder_21 rfl rfl (fun hh => absurd hh (by decide)) (fun _ => ?_)
    refine ex_iload_n dX9_isUnder_24 rfl rfl ?_
    refine ex_iconst (x := 4) dX9_isUnder_25 rfl rfl ?_
    refine ex_icmp_ne (q := 33) (q2 := 29) dX9_isUnder_26 rfl rfl (fun _ => ?_) (fun hh => absurd (by decide) hh)
    refine ex_iconst (x := 0) dX9_isUnder_33 rfl rfl ?_
    exact ex_zret dX9_isUnder_34 rfl (by decide) rfl rfl
  · refine Ok.of (ls := [some (.int 5), some (.int 3)]) (Nat.le_of_ble_eq_true rfl) rfl ?_
    refine ex_iload_n dX9_isUnder_0 rfl rfl ?_
    refine ex_if_eq (q := 29) (q2 := 4) dX9_isUnder_1 rfl rfl (fun hh => absurd hh (by decide)) (fun _ => ?_)
    refine ex_iload_n dX9_isUnder_4 rfl rfl ?_
    refine ex_iload_n dX9_isUnder_5 rfl rfl ?_
    refine ex_icmp_eq (q := 29) (q2 := 9) dX9_isUnder_6 rfl rfl (fun hh => absurd hh (by decide)) (fun _ => ?_)
    refine ex_iload_n dX9_isUnder_9 rfl rfl ?_
    refine ex_iconst (x := 1) dX9_isUnder_10 rfl rfl ?_
    refine ex_icmp_ne (q := 19) (q2 := 14) dX9_isUnder_11 rfl rfl (fun _ => ?_) (fun hh => absurd (by decide) hh)
    refine ex_iload_n dX9_isUnder_19 rfl rfl ?_
    refine ex_iconst (x := 2) dX9_isUnder_20 rfl rfl ?_
    refine ex_icmp_ne (q := 33) (q2 := 24) dX9_isUnder_21 rfl rfl (fun _ => ?_) (fun hh => absurd (by decide) hh)
    refine ex_iconst (x := 0) dX9_isUnder_33 rfl rfl ?_
    exact ex_zret dX9_isUnder_34 rfl (by decide) rfl rfl
  · refine Ok.of (ls := [some (.int 5), some (.int 4)]) (Nat.le_of_ble_eq_true rfl) rfl ?_
    refine ex_iload_n dX9_isUnder_0 rfl rfl ?_
    refine ex_if_eq (q := 29) (q2 := 4) dX9_isUnder_1 rfl rfl (fun hh => absurd hh (by decide)) (fun _ => ?_)
    refine ex_iload_n dX9_isUnder_4 rfl rfl ?_
    refine ex_iload_n dX9_isUnder_5 rfl rfl ?_
    refine ex_icmp_eq (q := 29) (q2 := 9) dX9_isUnder_6 rfl rfl (fun hh => absurd hh (by decide)) (fun _ => ?_)
    refine ex_iload_n dX9_isUnder_9 rfl rfl ?_
    refine ex_iconst (x := 1) dX9_isUnder_10 rfl rfl ?_
    refine ex_icmp_ne (q := 19) (q2 := 14) dX9_isUnder_11 rfl rfl (fun _ => ?_) (fun hh => absurd (by decide) hh)
    refine ex_iload_n dX9_isUnder_19 rfl rfl ?_
    refine ex_iconst (x := 2) dX9_isUnder_20 rfl rfl ?_
    refine ex_icmp_ne (q := 33) (q2 := 24) dX9_isUnder_21 rfl rfl (fun _ => ?_) (fun hh => absurd (by decide) hh)
    refine ex_iconst (x := 0) dX9_isUnder_33 rfl rfl ?_
    exact ex_zret dX9_isUnder_34 rfl (by decide) rfl rfl
  · refine Ok.of (ls := [some (.int 5), some (.int 5)]) (Nat.le_of_ble_eq_true rfl) rfl ?_
    refine ex_iload_n dX9_isUnder_0 rfl rfl ?_
    refine ex_if_eq (q := 29) (q2 := 4) dX9_isUnder_1 rfl rfl (fun hh => absurd hh (by decide)) (fun _ => ?_)
    refine ex_iload_n dX9_isUnder_4 rfl rfl ?_
    refine ex_iload_n dX9_isUnder_5 rfl rfl ?_
    refine ex_icmp_eq (q := 29) (q2 := 9) dX9_isUnder_6 rfl rfl (fun _ => ?_) (fun hh => absurd (by decide) hh)
    refine ex_iconst (x := 1) dX9_isUnder_29 rfl rfl ?_
    refine ex_goto (q := 34) dX9_isUnder_30 rfl ?_
    exact ex_zret dX9_isUnder_34 rfl (by decide) rfl rfl

theorem tn_of_6 {k : Nat} (hk : k ≤ 5) : tn_of k 6 = false := by
  have : k = 0 ∨ k = 1 ∨ k = 2 ∨ k = 3 ∨ k = 4 ∨ k = 5 := by omega
  rcases this with rfl | rfl | rfl | rfl | rfl | rfl <;> rfl
set_option maxHeartbeats 2000000 in
theorem j_taken {T : tn_T} {X : gx_T} {P : gt_T} {Im : gi_T} {S : gs_T} (hG : gg_ok (T, X, P, Im, S)) (i k : Int32) : J mX8_taken mX9_taken [.int i, .int k] (T, X, P, Im, S) := by
  have hT : tn_ok T := hG.1
  have hX : gx_ok X := hG.2.1
  have hP : gt_ok P := hG.2.2.1
  have hI : gi_ok T (gx_n X) Im := hG.2.2.2.1
  have hS : gs_ok S := hG.2.2.2.2.1
  have hw : tn_w T < gx_n X := hG.2.2.2.2.2
  have hL := hT.1
  have hw6 := hT.2.1
  have hu := tn_u_lt hT
  have hX6 := hX.2.1
  have hP6 := hP.1
  rcases sw_in (n := 6) (by decide) k with ⟨q, hq, rfl⟩ | hk
  · rcases sw_in (n := 13) (by decide) i with ⟨j, hj, rfl⟩ | hi
    · have t1 : tn_in (nI q) 0 6 = true := tn_in_t (x := 0) (y := 6) (Nat.zero_le _) hq (by decide)
      have t2 : tn_in (nI j) 0 13 = true := tn_in_t (x := 0) (y := 13) (Nat.zero_le _) hj (by decide)
      by_cases c1 : j < 7
      · by_cases c2 : j < tn_L T
        · have hk5 := (hT.2.2.2 j c2).1
          by_cases c3 : q < 6
          · by_cases c4 : tn_of (tn_k T j) q = true
            · refine J.q hG (.int (nI j)) (fun σ hC => ?_) (fun σ hM => ?_)
              · have h : TR σ 9 18 T := hC.1
                refine Ok.of (ls := [some (.ref 54), some (.int (nI j)), some (.int (nI q)), none, none]) (Nat.le_of_ble_eq_true rfl) rfl ?_
                refine ex_iload_n dX8_taken_0 rfl rfl ?_
                refine ex_if_lt (q := 10) (q2 := 4) dX8_taken_1 rfl rfl (fun hh => absurd hh (nI_pos (by omega))) (fun _ => ?_)
                refine ex_iload_n dX8_taken_4 rfl rfl ?_
                refine ex_bipush (x := 6) dX8_taken_5 rfl rfl ?_
                refine ex_icmp_le (q := 13) (q2 := 10) dX8_taken_7 rfl rfl (fun _ => ?_) (fun hh => absurd (nI_le (a := q) (b := 6) (by omega) (by omega)) hh)
                refine ex_iload_n dX8_taken_13 rfl rfl ?_
                refine ex_if_lt (q := 23) (q2 := 17) dX8_taken_14 rfl rfl (fun hh => absurd hh (nI_pos (by omega))) (fun _ => ?_)
                refine ex_iload_n dX8_taken_17 rfl rfl ?_
                refine ex_bipush (x := 14) dX8_taken_18 rfl rfl ?_
                refine ex_icmp_lt (q := 26) (q2 := 23) dX8_taken_20 rfl rfl (fun _ => ?_) (fun hh => absurd (nI_lt (a := j) (b := 14) (by omega) (by omega)) hh)
                refine ex_iload_n dX8_taken_26 rfl rfl ?_
                refine ex_bipush (x := 7) dX8_taken_27 rfl rfl ?_
                refine ex_icmp_ge (q := 36) (q2 := 32) dX8_taken_29 rfl rfl (fun hh => absurd hh (nI_ge (a := j) (b := 7) (by omega) (by omega))) (fun _ => ?_)
                refine ex_iconst (x := 1) dX8_taken_32 rfl rfl ?_
                refine ex_goto (q := 37) dX8_taken_33 rfl ?_
                refine ex_istore_n (ls' := [some (.ref 54), some (.int (nI j)), some (.int (nI q)), some (.int 1), none]) dX8_taken_37 rfl (Nat.le_of_ble_eq_true rfl) rfl rfl ?_
                refine ex_iload_n dX8_taken_38 rfl rfl ?_
                refine ex_if_eq (q := 46) (q2 := 42) dX8_taken_39 rfl rfl (fun hh => absurd hh (by decide)) (fun _ => ?_)
                refine ex_iload_n dX8_taken_42 rfl rfl ?_
                refine ex_goto (q := 50) dX8_taken_43 rfl ?_
                refine ex_istore (ls' := [some (.ref 54), some (.int (nI j)), some (.int (nI q)), some (.int 1), some (.int (nI j))]) dX8_taken_50 rfl (Nat.le_of_ble_eq_true rfl) rfl rfl ?_
                refine ex_iload_n dX8_taken_52 rfl rfl ?_
                refine ex_if_eq (q := 71) (q2 := 56) dX8_taken_53 rfl rfl (fun hh => absurd hh (by decide)) (fun _ => ?_)
                refine ex_aload_n dX8_taken_56 rfl rfl ?_
                refine ex_getR (b := 22) dX8_taken_57 rfl qp_7_10 rfl rfl ?_
                refine ex_iload dX8_taken_60 rfl rfl ?_
                refine ex_callV (a := 22) (rest := []) dX8_taken_62 rfl qp_7_95 rfl rfl rfl rfl rfl (Nat.le_of_ble_eq_true rfl) (c_hasLot_0n hT h (by omega)) (Nat.le_of_ble_eq_true rfl) ?_
                show Ex qm_lay _ mX8_taken 65 [some (.ref 54), some (.int (nI j)), some (.int (nI q)), some (.int 1), some (.int (nI j))] [.int 1] σ _ _
                refine ex_if_ne (q := 86) (q2 := 68) dX8_taken_65 rfl rfl (fun _ => ?_) (fun hh => absurd (by decide) hh)
                refine ex_iload_n dX8_taken_86 rfl rfl ?_
                refine ex_if_eq (q := 115) (q2 := 90) dX8_taken_87 rfl rfl (fun hh => absurd hh (by decide)) (fun _ => ?_)
                refine ex_aload_n dX8_taken_90 rfl rfl ?_
                refine ex_getR (b := 22) dX8_taken_91 rfl qp_7_10 rfl rfl ?_
                refine ex_getR (b := 23) dX8_taken_94 rfl qp_7_113 rfl rfl ?_
                refine ex_iload dX8_taken_97 rfl rfl ?_
                refine ex_iaload (k := j) (x := nI (tn_k T j)) dX8_taken_99 rfl rfl (rfl) (by omega) (by decide) (TR.kk h (by omega)) ?_
                refine ex_iload_n dX8_taken_100 rfl rfl ?_
                refine ex_callS (rest := []) dX8_taken_101 rfl qp_7_303 rfl rfl rfl (Nat.le_of_ble_eq_true rfl) (c_isOfKind _ (by omega) (by omega)) (Nat.le_of_ble_eq_true rfl) ?_
                show Ex qm_lay _ mX8_taken 104 [some (.ref 54), some (.int (nI j)), some (.int (nI q)), some (.int 1), some (.int (nI j))] [.int (b2i (tn_of (tn_k T j) q))] σ _ _
                refine ex_if_eq (q := 112) (q2 := 107) dX8_taken_104 rfl rfl (fun hh => absurd hh (b2i_n0.mpr (c4))) (fun _ => ?_)
                refine ex_iload dX8_taken_107 rfl rfl ?_
                refine ex_goto (q := 114) dX8_taken_109 rfl ?_
                exact ex_iret dX8_taken_114 rfl rfl rfl
              · have h : MR σ T := hM.1
                refine Ok.of (ls := [some (.ref 55), some (.int (nI j)), some (.int (nI q)), none]) (Nat.le_of_ble_eq_true rfl) rfl ?_
                refine ex_iload_n dX9_taken_0 rfl rfl ?_
                refine ex_iconst (x := 0) dX9_taken_1 rfl rfl ?_
                refine ex_bipush (x := 6) dX9_taken_2 rfl rfl ?_
                refine ex_callS (rest := []) dX9_taken_4 rfl qp_8_81 rfl rfl rfl (Nat.le_of_ble_eq_true rfl) (k_in _ _ _ _) (Nat.le_of_ble_eq_true rfl) ?_
                show Ex qm_lay _ mX9_taken 7 [some (.ref 55), some (.int (nI j)), some (.int (nI q)), none] [.int (b2i (tn_in (nI q) 0 6))] σ _ _
                refine ex_if_ne (q := 13) (q2 := 10) dX9_taken_7 rfl rfl (fun _ => ?_) (fun hh => absurd (b2i_n0.mpr (t1)) hh)
                refine ex_iload_n dX9_taken_13 rfl rfl ?_
                refine ex_iconst (x := 0) dX9_taken_14 rfl rfl ?_
                refine ex_bipush (x := 13) dX9_taken_15 rfl rfl ?_
                refine ex_callS (rest := []) dX9_taken_17 rfl qp_8_81 rfl rfl rfl (Nat.le_of_ble_eq_true rfl) (k_in _ _ _ _) (Nat.le_of_ble_eq_true rfl) ?_
                show Ex qm_lay _ mX9_taken 20 [some (.ref 55), some (.int (nI j)), some (.int (nI q)), none] [.int (b2i (tn_in (nI j) 0 13))] σ _ _
                refine ex_if_ne (q := 26) (q2 := 23) dX9_taken_20 rfl rfl (fun _ => ?_) (fun hh => absurd (b2i_n0.mpr (t2)) hh)
                refine ex_iload_n dX9_taken_26 rfl rfl ?_
                refine ex_bipush (x := 7) dX9_taken_27 rfl rfl ?_
                refine ex_icmp_ge (q := 71) (q2 := 32) dX9_taken_29 rfl rfl (fun hh => absurd hh (nI_ge (a := j) (b := 7) (by omega) (by omega))) (fun _ => ?_)
                refine ex_iload_n dX9_taken_32 rfl rfl ?_
                refine ex_aload_n dX9_taken_33 rfl rfl ?_
                refine ex_getI (s := 27) (x := nI (tn_L T)) dX9_taken_34 rfl qp_8_78 rfl rfl (h.1.1) ?_
                refine ex_icmp_lt (q := 45) (q2 := 40) dX9_taken_37 rfl rfl (fun _ => ?_) (fun hh => absurd (nI_lt (a := j) (b := (tn_L T)) (by omega) (by omega)) hh)
                refine ex_iload_n dX9_taken_45 rfl rfl ?_
                refine ex_bipush (x := 6) dX9_taken_46 rfl rfl ?_
                refine ex_icmp_ge (q := 68) (q2 := 51) dX9_taken_48 rfl rfl (fun hh => absurd hh (nI_ge (a := q) (b := 6) (by omega) (by omega))) (fun _ => ?_)
                refine ex_aload_n dX9_taken_51 rfl rfl ?_
                refine ex_getR (b := 56) dX9_taken_52 rfl qp_8_7 rfl rfl ?_
                refine ex_iload_n dX9_taken_55 rfl rfl ?_
                refine ex_iaload (k := j) (x := nI (tn_k T j)) dX9_taken_56 rfl rfl (rfl) (by omega) (by decide) (MR.kk h (by omega)) ?_
                refine ex_iload_n dX9_taken_57 rfl rfl ?_
                refine ex_callS (rest := []) dX9_taken_58 rfl qp_8_326 rfl rfl rfl (Nat.le_of_ble_eq_true rfl) (k_isUnder _ (by omega) (by omega)) (Nat.le_of_ble_eq_true rfl) ?_
                show Ex qm_lay _ mX9_taken 61 [some (.ref 55), some (.int (nI j)), some (.int (nI q)), none] [.int (b2i (tn_of (tn_k T j) q))] σ _ _
                refine ex_if_eq (q := 68) (q2 := 64) dX9_taken_61 rfl rfl (fun hh => absurd hh (b2i_n0.mpr (c4))) (fun _ => ?_)
                refine ex_iload_n dX9_taken_64 rfl rfl ?_
                refine ex_goto (q := 70) dX9_taken_65 rfl ?_
                exact ex_iret dX9_taken_70 rfl rfl rfl
            · refine J.q hG (.int (-13)) (fun σ hC => ?_) (fun σ hM => ?_)
              · have h : TR σ 9 18 T := hC.1
                refine Ok.of (ls := [some (.ref 54), some (.int (nI j)), some (.int (nI q)), none, none]) (Nat.le_of_ble_eq_true rfl) rfl ?_
                refine ex_iload_n dX8_taken_0 rfl rfl ?_
                refine ex_if_lt (q := 10) (q2 := 4) dX8_taken_1 rfl rfl (fun hh => absurd hh (nI_pos (by omega))) (fun _ => ?_)
                refine ex_iload_n dX8_taken_4 rfl rfl ?_
                refine ex_bipush (x := 6) dX8_taken_5 rfl rfl ?_
                refine ex_icmp_le (q := 13) (q2 := 10) dX8_taken_7 rfl rfl (fun _ => ?_) (fun hh => absurd (nI_le (a := q) (b := 6) (by omega) (by omega)) hh)
                refine ex_iload_n dX8_taken_13 rfl rfl ?_
                refine ex_if_lt (q := 23) (q2 := 17) dX8_taken_14 rfl rfl (fun hh => absurd hh (nI_pos (by omega))) (fun _ => ?_)
                refine ex_iload_n dX8_taken_17 rfl rfl ?_
                refine ex_bipush (x := 14) dX8_taken_18 rfl rfl ?_
                refine ex_icmp_lt (q := 26) (q2 := 23) dX8_taken_20 rfl rfl (fun _ => ?_) (fun hh => absurd (nI_lt (a := j) (b := 14) (by omega) (by omega)) hh)
                refine ex_iload_n dX8_taken_26 rfl rfl ?_
                refine ex_bipush (x := 7) dX8_taken_27 rfl rfl ?_
                refine ex_icmp_ge (q := 36) (q2 := 32) dX8_taken_29 rfl rfl (fun hh => absurd hh (nI_ge (a := j) (b := 7) (by omega) (by omega))) (fun _ => ?_)
                refine ex_iconst (x := 1) dX8_taken_32 rfl rfl ?_
                refine ex_goto (q := 37) dX8_taken_33 rfl ?_
                refine ex_istore_n (ls' := [some (.ref 54), some (.int (nI j)), some (.int (nI q)), some (.int 1), none]) dX8_taken_37 rfl (Nat.le_of_ble_eq_true rfl) rfl rfl ?_
                refine ex_iload_n dX8_taken_38 rfl rfl ?_
                refine ex_if_eq (q := 46) (q2 := 42) dX8_taken_39 rfl rfl (fun hh => absurd hh (by decide)) (fun _ => ?_)
                refine ex_iload_n dX8_taken_42 rfl rfl ?_
                refine ex_goto (q := 50) dX8_taken_43 rfl ?_
                refine ex_istore (ls' := [some (.ref 54), some (.int (nI j)), some (.int (nI q)), some (.int 1), some (.int (nI j))]) dX8_taken_50 rfl (Nat.le_of_ble_eq_true rfl) rfl rfl ?_
                refine ex_iload_n dX8_taken_52 rfl rfl ?_
                refine ex_if_eq (q := 71) (q2 := 56) dX8_taken_53 rfl rfl (fun hh => absurd hh (by decide)) (fun _ => ?_)
                refine ex_aload_n dX8_taken_56 rfl rfl ?_
                refine ex_getR (b := 22) dX8_taken_57 rfl qp_7_10 rfl rfl ?_
                refine ex_iload dX8_taken_60 rfl rfl ?_
                refine ex_callV (a := 22) (rest := []) dX8_taken_62 rfl qp_7_95 rfl rfl rfl rfl rfl (Nat.le_of_ble_eq_true rfl) (c_hasLot_0n hT h (by omega)) (Nat.le_of_ble_eq_true rfl) ?_
                show Ex qm_lay _ mX8_taken 65 [some (.ref 54), some (.int (nI j)), some (.int (nI q)), some (.int 1), some (.int (nI j))] [.int 1] σ _ _
                refine ex_if_ne (q := 86) (q2 := 68) dX8_taken_65 rfl rfl (fun _ => ?_) (fun hh => absurd (by decide) hh)
                refine ex_iload_n dX8_taken_86 rfl rfl ?_
                refine ex_if_eq (q := 115) (q2 := 90) dX8_taken_87 rfl rfl (fun hh => absurd hh (by decide)) (fun _ => ?_)
                refine ex_aload_n dX8_taken_90 rfl rfl ?_
                refine ex_getR (b := 22) dX8_taken_91 rfl qp_7_10 rfl rfl ?_
                refine ex_getR (b := 23) dX8_taken_94 rfl qp_7_113 rfl rfl ?_
                refine ex_iload dX8_taken_97 rfl rfl ?_
                refine ex_iaload (k := j) (x := nI (tn_k T j)) dX8_taken_99 rfl rfl (rfl) (by omega) (by decide) (TR.kk h (by omega)) ?_
                refine ex_iload_n dX8_taken_100 rfl rfl ?_
                refine ex_callS (rest := []) dX8_taken_101 rfl qp_7_303 rfl rfl rfl (Nat.le_of_ble_eq_true rfl) (c_isOfKind _ (by omega) (by omega)) (Nat.le_of_ble_eq_true rfl) ?_
                show Ex qm_lay _ mX8_taken 104 [some (.ref 54), some (.int (nI j)), some (.int (nI q)), some (.int 1), some (.int (nI j))] [.int (b2i (tn_of (tn_k T j) q))] σ _ _
                refine ex_if_eq (q := 112) (q2 := 107) dX8_taken_104 rfl rfl (fun _ => ?_) (fun hh => absurd (b2i_0.mpr (by simpa using c4)) hh)
                refine ex_bipush (x := (-13)) dX8_taken_112 rfl rfl ?_
                exact ex_iret dX8_taken_114 rfl rfl rfl
              · have h : MR σ T := hM.1
                refine Ok.of (ls := [some (.ref 55), some (.int (nI j)), some (.int (nI q)), none]) (Nat.le_of_ble_eq_true rfl) rfl ?_
                refine ex_iload_n dX9_taken_0 rfl rfl ?_
                refine ex_iconst (x := 0) dX9_taken_1 rfl rfl ?_
                refine ex_bipush (x := 6) dX9_taken_2 rfl rfl ?_
                refine ex_callS (rest := []) dX9_taken_4 rfl qp_8_81 rfl rfl rfl (Nat.le_of_ble_eq_true rfl) (k_in _ _ _ _) (Nat.le_of_ble_eq_true rfl) ?_
                show Ex qm_lay _ mX9_taken 7 [some (.ref 55), some (.int (nI j)), some (.int (nI q)), none] [.int (b2i (tn_in (nI q) 0 6))] σ _ _
                refine ex_if_ne (q := 13) (q2 := 10) dX9_taken_7 rfl rfl (fun _ => ?_) (fun hh => absurd (b2i_n0.mpr (t1)) hh)
                refine ex_iload_n dX9_taken_13 rfl rfl ?_
                refine ex_iconst (x := 0) dX9_taken_14 rfl rfl ?_
                refine ex_bipush (x := 13) dX9_taken_15 rfl rfl ?_
                refine ex_callS (rest := []) dX9_taken_17 rfl qp_8_81 rfl rfl rfl (Nat.le_of_ble_eq_true rfl) (k_in _ _ _ _) (Nat.le_of_ble_eq_true rfl) ?_
                show Ex qm_lay _ mX9_taken 20 [some (.ref 55), some (.int (nI j)), some (.int (nI q)), none] [.int (b2i (tn_in (nI j) 0 13))] σ _ _
                refine ex_if_ne (q := 26) (q2 := 23) dX9_taken_20 rfl rfl (fun _ => ?_) (fun hh => absurd (b2i_n0.mpr (t2)) hh)
                refine ex_iload_n dX9_taken_26 rfl rfl ?_
                refine ex_bipush (x := 7) dX9_taken_27 rfl rfl ?_
                refine ex_icmp_ge (q := 71) (q2 := 32) dX9_taken_29 rfl rfl (fun hh => absurd hh (nI_ge (a := j) (b := 7) (by omega) (by omega))) (fun _ => ?_)
                refine ex_iload_n dX9_taken_32 rfl rfl ?_
                refine ex_aload_n dX9_taken_33 rfl rfl ?_
                refine ex_getI (s := 27) (x := nI (tn_L T)) dX9_taken_34 rfl qp_8_78 rfl rfl (h.1.1) ?_
                refine ex_icmp_lt (q := 45) (q2 := 40) dX9_taken_37 rfl rfl (fun _ => ?_) (fun hh => absurd (nI_lt (a := j) (b := (tn_L T)) (by omega) (by omega)) hh)
                refine ex_iload_n dX9_taken_45 rfl rfl ?_
                refine ex_bipush (x := 6) dX9_taken_46 rfl rfl ?_
                refine ex_icmp_ge (q := 68) (q2 := 51) dX9_taken_48 rfl rfl (fun hh => absurd hh (nI_ge (a := q) (b := 6) (by omega) (by omega))) (fun _ => ?_)
                refine ex_aload_n dX9_taken_51 rfl rfl ?_
                refine ex_getR (b := 56) dX9_taken_52 rfl qp_8_7 rfl rfl ?_
                refine ex_iload_n dX9_taken_55 rfl rfl ?_
                refine ex_iaload (k := j) (x := nI (tn_k T j)) dX9_taken_56 rfl rfl (rfl) (by omega) (by decide) (MR.kk h (by omega)) ?_
                refine ex_iload_n dX9_taken_57 rfl rfl ?_
                refine ex_callS (rest := []) dX9_taken_58 rfl qp_8_326 rfl rfl rfl (Nat.le_of_ble_eq_true rfl) (k_isUnder _ (by omega) (by omega)) (Nat.le_of_ble_eq_true rfl) ?_
                show Ex qm_lay _ mX9_taken 61 [some (.ref 55), some (.int (nI j)), some (.int (nI q)), none] [.int (b2i (tn_of (tn_k T j) q))] σ _ _
                refine ex_if_eq (q := 68) (q2 := 64) dX9_taken_61 rfl rfl (fun _ => ?_) (fun hh => absurd (b2i_0.mpr (by simpa using c4)) hh)
                refine ex_bipush (x := (-13)) dX9_taken_68 rfl rfl ?_
                exact ex_iret dX9_taken_70 rfl rfl rfl
          · have h6 : q = 6 := by omega
            subst h6
            refine J.q hG (.int (-13)) (fun σ hC => ?_) (fun σ hM => ?_)
            · have h : TR σ 9 18 T := hC.1
              refine Ok.of (ls := [some (.ref 54), some (.int (nI j)), some (.int 6), none, none]) (Nat.le_of_ble_eq_true rfl) rfl ?_
              refine ex_iload_n dX8_taken_0 rfl rfl ?_
              refine ex_if_lt (q := 10) (q2 := 4) dX8_taken_1 rfl rfl (fun hh => absurd hh (by decide)) (fun _ => ?_)
              refine ex_iload_n dX8_taken_4 rfl rfl ?_
              refine ex_bipush (x := 6) dX8_taken_5 rfl rfl ?_
              refine ex_icmp_le (q := 13) (q2 := 10) dX8_taken_7 rfl rfl (fun _ => ?_) (fun hh => absurd (by decide) hh)
              refine ex_iload_n dX8_taken_13 rfl rfl ?_
              refine ex_if_lt (q := 23) (q2 := 17) dX8_taken_14 rfl rfl (fun hh => absurd hh (nI_pos (by omega))) (fun _ => ?_)
              refine ex_iload_n dX8_taken_17 rfl rfl ?_
              refine ex_bipush (x := 14) dX8_taken_18 rfl rfl ?_
              refine ex_icmp_lt (q := 26) (q2 := 23) dX8_taken_20 rfl rfl (fun _ => ?_) (fun hh => absurd (nI_lt (a := j) (b := 14) (by omega) (by omega)) hh)
              refine ex_iload_n dX8_taken_26 rfl rfl ?_
              refine ex_bipush (x := 7) dX8_taken_27 rfl rfl ?_
              refine ex_icmp_ge (q := 36) (q2 := 32) dX8_taken_29 rfl rfl (fun hh => absurd hh (nI_ge (a := j) (b := 7) (by omega) (by omega))) (fun _ => ?_)
              refine ex_iconst (x := 1) dX8_taken_32 rfl rfl ?_
              refine ex_goto (q := 37) dX8_taken_33 rfl ?_
              refine ex_istore_n (ls' := [some (.ref 54), some (.int (nI j)), some (.int 6), some (.int 1), none]) dX8_taken_37 rfl (Nat.le_of_ble_eq_true rfl) rfl rfl ?_
              refine ex_iload_n dX8_taken_38 rfl rfl ?_
              refine ex_if_eq (q := 46) (q2 := 42) dX8_taken_39 rfl rfl (fun hh => absurd hh (by decide)) (fun _ => ?_)
              refine ex_iload_n dX8_taken_42 rfl rfl ?_
              refine ex_goto (q := 50) dX8_taken_43 rfl ?_
              refine ex_istore (ls' := [some (.ref 54), some (.int (nI j)), some (.int 6), some (.int 1), some (.int (nI j))]) dX8_taken_50 rfl (Nat.le_of_ble_eq_true rfl) rfl rfl ?_
              refine ex_iload_n dX8_taken_52 rfl rfl ?_
              refine ex_if_eq (q := 71) (q2 := 56) dX8_taken_53 rfl rfl (fun hh => absurd hh (by decide)) (fun _ => ?_)
              refine ex_aload_n dX8_taken_56 rfl rfl ?_
              refine ex_getR (b := 22) dX8_taken_57 rfl qp_7_10 rfl rfl ?_
              refine ex_iload dX8_taken_60 rfl rfl ?_
              refine ex_callV (a := 22) (rest := []) dX8_taken_62 rfl qp_7_95 rfl rfl rfl rfl rfl (Nat.le_of_ble_eq_true rfl) (c_hasLot_0n hT h (by omega)) (Nat.le_of_ble_eq_true rfl) ?_
              show Ex qm_lay _ mX8_taken 65 [some (.ref 54), some (.int (nI j)), some (.int 6), some (.int 1), some (.int (nI j))] [.int 1] σ _ _
              refine ex_if_ne (q := 86) (q2 := 68) dX8_taken_65 rfl rfl (fun _ => ?_) (fun hh => absurd (by decide) hh)
              refine ex_iload_n dX8_taken_86 rfl rfl ?_
              refine ex_if_eq (q := 115) (q2 := 90) dX8_taken_87 rfl rfl (fun hh => absurd hh (by decide)) (fun _ => ?_)
              refine ex_aload_n dX8_taken_90 rfl rfl ?_
              refine ex_getR (b := 22) dX8_taken_91 rfl qp_7_10 rfl rfl ?_
              refine ex_getR (b := 23) dX8_taken_94 rfl qp_7_113 rfl rfl ?_
              refine ex_iload dX8_taken_97 rfl rfl ?_
              refine ex_iaload (k := j) (x := nI (tn_k T j)) dX8_taken_99 rfl rfl (rfl) (by omega) (by decide) (TR.kk h (by omega)) ?_
              refine ex_iload_n dX8_taken_100 rfl rfl ?_
              refine ex_callS (rest := []) dX8_taken_101 rfl qp_7_303 rfl rfl rfl (Nat.le_of_ble_eq_true rfl) (c_isOfKind _ (by omega) (by omega)) (Nat.le_of_ble_eq_true rfl) ?_
              show Ex qm_lay _ mX8_taken 104 [some (.ref 54), some (.int (nI j)), some (.int 6), some (.int 1), some (.int (nI j))] [.int (b2i (tn_of (tn_k T j) 6))] σ _ _
              refine ex_if_eq (q := 112) (q2 := 107) dX8_taken_104 rfl rfl (fun _ => ?_) (fun hh => absurd (b2i_0.mpr (tn_of_6 hk5)) hh)
              refine ex_bipush (x := (-13)) dX8_taken_112 rfl rfl ?_
              exact ex_iret dX8_taken_114 rfl rfl rfl
            · have h : MR σ T := hM.1
              refine Ok.of (ls := [some (.ref 55), some (.int (nI j)), some (.int 6), none]) (Nat.le_of_ble_eq_true rfl) rfl ?_
              refine ex_iload_n dX9_taken_0 rfl rfl ?_
              refine ex_iconst (x := 0) dX9_taken_1 rfl rfl ?_
              refine ex_bipush (x := 6) dX9_taken_2 rfl rfl ?_
              refine ex_callS (rest := []) dX9_taken_4 rfl qp_8_81 rfl rfl rfl (Nat.le_of_ble_eq_true rfl) (k_in _ _ _ _) (Nat.le_of_ble_eq_true rfl) ?_
              show Ex qm_lay _ mX9_taken 7 [some (.ref 55), some (.int (nI j)), some (.int 6), none] [.int (b2i (tn_in 6 0 6))] σ _ _
              refine ex_if_ne (q := 13) (q2 := 10) dX9_taken_7 rfl rfl (fun _ => ?_) (fun hh => absurd (b2i_n0.mpr (rfl)) hh)
              refine ex_iload_n dX9_taken_13 rfl rfl ?_
              refine ex_iconst (x := 0) dX9_taken_14 rfl rfl ?_
              refine ex_bipush (x := 13) dX9_taken_15 rfl rfl ?_
              refine ex_callS (rest := []) dX9_taken_17 rfl qp_8_81 rfl rfl rfl (Nat.le_of_ble_eq_true rfl) (k_in _ _ _ _) (Nat.le_of_ble_eq_true rfl) ?_
              show Ex qm_lay _ mX9_taken 20 [some (.ref 55), some (.int (nI j)), some (.int 6), none] [.int (b2i (tn_in (nI j) 0 13))] σ _ _
              refine ex_if_ne (q := 26) (q2 := 23) dX9_taken_20 rfl rfl (fun _ => ?_) (fun hh => absurd (b2i_n0.mpr (t2)) hh)
              refine ex_iload_n dX9_taken_26 rfl rfl ?_
              refine ex_bipush (x := 7) dX9_taken_27 rfl rfl ?_
              refine ex_icmp_ge (q := 71) (q2 := 32) dX9_taken_29 rfl rfl (fun hh => absurd hh (nI_ge (a := j) (b := 7) (by omega) (by omega))) (fun _ => ?_)
              refine ex_iload_n dX9_taken_32 rfl rfl ?_
              refine ex_aload_n dX9_taken_33 rfl rfl ?_
              refine ex_getI (s := 27) (x := nI (tn_L T)) dX9_taken_34 rfl qp_8_78 rfl rfl (h.1.1) ?_
              refine ex_icmp_lt (q := 45) (q2 := 40) dX9_taken_37 rfl rfl (fun _ => ?_) (fun hh => absurd (nI_lt (a := j) (b := (tn_L T)) (by omega) (by omega)) hh)
              refine ex_iload_n dX9_taken_45 rfl rfl ?_
              refine ex_bipush (x := 6) dX9_taken_46 rfl rfl ?_
              refine ex_icmp_ge (q := 68) (q2 := 51) dX9_taken_48 rfl rfl (fun _ => ?_) (fun hh => absurd (by decide) hh)
              refine ex_bipush (x := (-13)) dX9_taken_68 rfl rfl ?_
              exact ex_iret dX9_taken_70 rfl rfl rfl
        · refine J.q hG (.int (-11)) (fun σ hC => ?_) (fun σ hM => ?_)
          · have h : TR σ 9 18 T := hC.1
            refine Ok.of (ls := [some (.ref 54), some (.int (nI j)), some (.int (nI q)), none, none]) (Nat.le_of_ble_eq_true rfl) rfl ?_
            refine ex_iload_n dX8_taken_0 rfl rfl ?_
            refine ex_if_lt (q := 10) (q2 := 4) dX8_taken_1 rfl rfl (fun hh => absurd hh (nI_pos (by omega))) (fun _ => ?_)
            refine ex_iload_n dX8_taken_4 rfl rfl ?_
            refine ex_bipush (x := 6) dX8_taken_5 rfl rfl ?_
            refine ex_icmp_le (q := 13) (q2 := 10) dX8_taken_7 rfl rfl (fun _ => ?_) (fun hh => absurd (nI_le (a := q) (b := 6) (by omega) (by omega)) hh)
            refine ex_iload_n dX8_taken_13 rfl rfl ?_
            refine ex_if_lt (q := 23) (q2 := 17) dX8_taken_14 rfl rfl (fun hh => absurd hh (nI_pos (by omega))) (fun _ => ?_)
            refine ex_iload_n dX8_taken_17 rfl rfl ?_
            refine ex_bipush (x := 14) dX8_taken_18 rfl rfl ?_
            refine ex_icmp_lt (q := 26) (q2 := 23) dX8_taken_20 rfl rfl (fun _ => ?_) (fun hh => absurd (nI_lt (a := j) (b := 14) (by omega) (by omega)) hh)
            refine ex_iload_n dX8_taken_26 rfl rfl ?_
            refine ex_bipush (x := 7) dX8_taken_27 rfl rfl ?_
            refine ex_icmp_ge (q := 36) (q2 := 32) dX8_taken_29 rfl rfl (fun hh => absurd hh (nI_ge (a := j) (b := 7) (by omega) (by omega))) (fun _ => ?_)
            refine ex_iconst (x := 1) dX8_taken_32 rfl rfl ?_
            refine ex_goto (q := 37) dX8_taken_33 rfl ?_
            refine ex_istore_n (ls' := [some (.ref 54), some (.int (nI j)), some (.int (nI q)), some (.int 1), none]) dX8_taken_37 rfl (Nat.le_of_ble_eq_true rfl) rfl rfl ?_
            refine ex_iload_n dX8_taken_38 rfl rfl ?_
            refine ex_if_eq (q := 46) (q2 := 42) dX8_taken_39 rfl rfl (fun hh => absurd hh (by decide)) (fun _ => ?_)
            refine ex_iload_n dX8_taken_42 rfl rfl ?_
            refine ex_goto (q := 50) dX8_taken_43 rfl ?_
            refine ex_istore (ls' := [some (.ref 54), some (.int (nI j)), some (.int (nI q)), some (.int 1), some (.int (nI j))]) dX8_taken_50 rfl (Nat.le_of_ble_eq_true rfl) rfl rfl ?_
            refine ex_iload_n dX8_taken_52 rfl rfl ?_
            refine ex_if_eq (q := 71) (q2 := 56) dX8_taken_53 rfl rfl (fun hh => absurd hh (by decide)) (fun _ => ?_)
            refine ex_aload_n dX8_taken_56 rfl rfl ?_
            refine ex_getR (b := 22) dX8_taken_57 rfl qp_7_10 rfl rfl ?_
            refine ex_iload dX8_taken_60 rfl rfl ?_
            refine ex_callV (a := 22) (rest := []) dX8_taken_62 rfl qp_7_95 rfl rfl rfl rfl rfl (Nat.le_of_ble_eq_true rfl) (c_hasLot_0 hT h (nI j)) (Nat.le_of_ble_eq_true rfl) ?_
            show Ex qm_lay _ mX8_taken 65 [some (.ref 54), some (.int (nI j)), some (.int (nI q)), some (.int 1), some (.int (nI j))] [.int (b2i (tn_has T (nI j)))] σ _ _
            refine ex_if_ne (q := 86) (q2 := 68) dX8_taken_65 rfl rfl (fun hh => absurd hh (fun zz => zz (b2i_0.mpr (tn_has_nf hT c2 (by omega))))) (fun _ => ?_)
            refine ex_goto (q := 83) dX8_taken_68 rfl ?_
            refine ex_bipush (x := (-11)) dX8_taken_83 rfl rfl ?_
            exact ex_iret dX8_taken_85 rfl rfl rfl
          · have h : MR σ T := hM.1
            refine Ok.of (ls := [some (.ref 55), some (.int (nI j)), some (.int (nI q)), none]) (Nat.le_of_ble_eq_true rfl) rfl ?_
            refine ex_iload_n dX9_taken_0 rfl rfl ?_
            refine ex_iconst (x := 0) dX9_taken_1 rfl rfl ?_
            refine ex_bipush (x := 6) dX9_taken_2 rfl rfl ?_
            refine ex_callS (rest := []) dX9_taken_4 rfl qp_8_81 rfl rfl rfl (Nat.le_of_ble_eq_true rfl) (k_in _ _ _ _) (Nat.le_of_ble_eq_true rfl) ?_
            show Ex qm_lay _ mX9_taken 7 [some (.ref 55), some (.int (nI j)), some (.int (nI q)), none] [.int (b2i (tn_in (nI q) 0 6))] σ _ _
            refine ex_if_ne (q := 13) (q2 := 10) dX9_taken_7 rfl rfl (fun _ => ?_) (fun hh => absurd (b2i_n0.mpr (t1)) hh)
            refine ex_iload_n dX9_taken_13 rfl rfl ?_
            refine ex_iconst (x := 0) dX9_taken_14 rfl rfl ?_
            refine ex_bipush (x := 13) dX9_taken_15 rfl rfl ?_
            refine ex_callS (rest := []) dX9_taken_17 rfl qp_8_81 rfl rfl rfl (Nat.le_of_ble_eq_true rfl) (k_in _ _ _ _) (Nat.le_of_ble_eq_true rfl) ?_
            show Ex qm_lay _ mX9_taken 20 [some (.ref 55), some (.int (nI j)), some (.int (nI q)), none] [.int (b2i (tn_in (nI j) 0 13))] σ _ _
            refine ex_if_ne (q := 26) (q2 := 23) dX9_taken_20 rfl rfl (fun _ => ?_) (fun hh => absurd (b2i_n0.mpr (t2)) hh)
            refine ex_iload_n dX9_taken_26 rfl rfl ?_
            refine ex_bipush (x := 7) dX9_taken_27 rfl rfl ?_
            refine ex_icmp_ge (q := 71) (q2 := 32) dX9_taken_29 rfl rfl (fun hh => absurd hh (nI_ge (a := j) (b := 7) (by omega) (by omega))) (fun _ => ?_)
            refine ex_iload_n dX9_taken_32 rfl rfl ?_
            refine ex_aload_n dX9_taken_33 rfl rfl ?_
            refine ex_getI (s := 27) (x := nI (tn_L T)) dX9_taken_34 rfl qp_8_78 rfl rfl (h.1.1) ?_
            refine ex_icmp_lt (q := 45) (q2 := 40) dX9_taken_37 rfl rfl (fun hh => absurd hh (nI_nlt (a := j) (b := (tn_L T)) (by omega) (by omega))) (fun _ => ?_)
            refine ex_bipush (x := (-11)) dX9_taken_40 rfl rfl ?_
            refine ex_goto (q := 70) dX9_taken_42 rfl ?_
            exact ex_iret dX9_taken_70 rfl rfl rfl
      · obtain ⟨m, rfl⟩ : ∃ m, j = m + 7 := ⟨j - 7, by omega⟩
        have e7 : nI (m + 7) - 7 = nI m := (pk_sub (a := m + 7) (b := 7) (by omega)).trans (by rw [Nat.add_sub_cancel])
        by_cases c2 : m < tn_L T
        · by_cases c3 : (tn_u T).testBit m = true
          · by_cases c4 : q = 6
            · subst c4
              refine J.q hG (.int (tn_cv T m)) (fun σ hC => ?_) (fun σ hM => ?_)
              · have h : TR σ 9 18 T := hC.1
                refine Ok.of (ls := [some (.ref 54), some (.int (nI (m + 7))), some (.int 6), none, none]) (Nat.le_of_ble_eq_true rfl) rfl ?_
                refine ex_iload_n dX8_taken_0 rfl rfl ?_
                refine ex_if_lt (q := 10) (q2 := 4) dX8_taken_1 rfl rfl (fun hh => absurd hh (by decide)) (fun _ => ?_)
                refine ex_iload_n dX8_taken_4 rfl rfl ?_
                refine ex_bipush (x := 6) dX8_taken_5 rfl rfl ?_
                refine ex_icmp_le (q := 13) (q2 := 10) dX8_taken_7 rfl rfl (fun _ => ?_) (fun hh => absurd (by decide) hh)
                refine ex_iload_n dX8_taken_13 rfl rfl ?_
                refine ex_if_lt (q := 23) (q2 := 17) dX8_taken_14 rfl rfl (fun hh => absurd hh (nI_pos (by omega))) (fun _ => ?_)
                refine ex_iload_n dX8_taken_17 rfl rfl ?_
                refine ex_bipush (x := 14) dX8_taken_18 rfl rfl ?_
                refine ex_icmp_lt (q := 26) (q2 := 23) dX8_taken_20 rfl rfl (fun _ => ?_) (fun hh => absurd (nI_lt (a := (m + 7)) (b := 14) (by omega) (by omega)) hh)
                refine ex_iload_n dX8_taken_26 rfl rfl ?_
                refine ex_bipush (x := 7) dX8_taken_27 rfl rfl ?_
                refine ex_icmp_ge (q := 36) (q2 := 32) dX8_taken_29 rfl rfl (fun _ => ?_) (fun hh => absurd (nI_le (a := 7) (b := (m + 7)) (by omega) (by omega)) hh)
                refine ex_iconst (x := 0) dX8_taken_36 rfl rfl ?_
                refine ex_istore_n (ls' := [some (.ref 54), some (.int (nI (m + 7))), some (.int 6), some (.int 0), none]) dX8_taken_37 rfl (Nat.le_of_ble_eq_true rfl) rfl rfl ?_
                refine ex_iload_n dX8_taken_38 rfl rfl ?_
                refine ex_if_eq (q := 46) (q2 := 42) dX8_taken_39 rfl rfl (fun _ => ?_) (fun hh => absurd (by decide) hh)
                refine ex_iload_n dX8_taken_46 rfl rfl ?_
                refine ex_bipush (x := 7) dX8_taken_47 rfl rfl ?_
                refine ex_isub (z := nI m) dX8_taken_49 rfl (e7) ?_
                refine ex_istore (ls' := [some (.ref 54), some (.int (nI (m + 7))), some (.int 6), some (.int 0), some (.int (nI m))]) dX8_taken_50 rfl (Nat.le_of_ble_eq_true rfl) rfl rfl ?_
                refine ex_iload_n dX8_taken_52 rfl rfl ?_
                refine ex_if_eq (q := 71) (q2 := 56) dX8_taken_53 rfl rfl (fun _ => ?_) (fun hh => absurd (by decide) hh)
                refine ex_aload_n dX8_taken_71 rfl rfl ?_
                refine ex_getR (b := 22) dX8_taken_72 rfl qp_7_10 rfl rfl ?_
                refine ex_iload dX8_taken_75 rfl rfl ?_
                refine ex_callV (a := 22) (rest := []) dX8_taken_77 rfl qp_7_127 rfl rfl rfl rfl rfl (Nat.le_of_ble_eq_true rfl) (c_isBuilt_0n hT h (by omega)) (Nat.le_of_ble_eq_true rfl) ?_
                show Ex qm_lay _ mX8_taken 80 [some (.ref 54), some (.int (nI (m + 7))), some (.int 6), some (.int 0), some (.int (nI m))] [.int (b2i (Nat.testBit (tn_u T) m))] σ _ _
                refine ex_if_ne (q := 86) (q2 := 83) dX8_taken_80 rfl rfl (fun _ => ?_) (fun hh => absurd (b2i_n0.mpr (c3)) hh)
                refine ex_iload_n dX8_taken_86 rfl rfl ?_
                refine ex_if_eq (q := 115) (q2 := 90) dX8_taken_87 rfl rfl (fun _ => ?_) (fun hh => absurd (by decide) hh)
                refine ex_iload_n dX8_taken_115 rfl rfl ?_
                refine ex_bipush (x := 6) dX8_taken_116 rfl rfl ?_
                refine ex_icmp_ne (q := 133) (q2 := 121) dX8_taken_118 rfl rfl (fun hh => absurd hh (by decide)) (fun _ => ?_)
                refine ex_aload_n dX8_taken_121 rfl rfl ?_
                refine ex_getR (b := 22) dX8_taken_122 rfl qp_7_10 rfl rfl ?_
                refine ex_iload dX8_taken_125 rfl rfl ?_
                refine ex_callV (a := 22) (rest := []) dX8_taken_127 rfl qp_7_123 rfl rfl rfl rfl rfl (Nat.le_of_ble_eq_true rfl) (c_colourOf_0n hT h (by omega)) (Nat.le_of_ble_eq_true rfl) ?_
                show Ex qm_lay _ mX8_taken 130 [some (.ref 54), some (.int (nI (m + 7))), some (.int 6), some (.int 0), some (.int (nI m))] [.int (tn_cv T m)] σ _ _
                refine ex_goto (q := 135) dX8_taken_130 rfl ?_
                exact ex_iret dX8_taken_135 rfl rfl rfl
              · have h : MR σ T := hM.1
                refine Ok.of (ls := [some (.ref 55), some (.int (nI (m + 7))), some (.int 6), none]) (Nat.le_of_ble_eq_true rfl) rfl ?_
                refine ex_iload_n dX9_taken_0 rfl rfl ?_
                refine ex_iconst (x := 0) dX9_taken_1 rfl rfl ?_
                refine ex_bipush (x := 6) dX9_taken_2 rfl rfl ?_
                refine ex_callS (rest := []) dX9_taken_4 rfl qp_8_81 rfl rfl rfl (Nat.le_of_ble_eq_true rfl) (k_in _ _ _ _) (Nat.le_of_ble_eq_true rfl) ?_
                show Ex qm_lay _ mX9_taken 7 [some (.ref 55), some (.int (nI (m + 7))), some (.int 6), none] [.int (b2i (tn_in 6 0 6))] σ _ _
                refine ex_if_ne (q := 13) (q2 := 10) dX9_taken_7 rfl rfl (fun _ => ?_) (fun hh => absurd (b2i_n0.mpr (rfl)) hh)
                refine ex_iload_n dX9_taken_13 rfl rfl ?_
                refine ex_iconst (x := 0) dX9_taken_14 rfl rfl ?_
                refine ex_bipush (x := 13) dX9_taken_15 rfl rfl ?_
                refine ex_callS (rest := []) dX9_taken_17 rfl qp_8_81 rfl rfl rfl (Nat.le_of_ble_eq_true rfl) (k_in _ _ _ _) (Nat.le_of_ble_eq_true rfl) ?_
                show Ex qm_lay _ mX9_taken 20 [some (.ref 55), some (.int (nI (m + 7))), some (.int 6), none] [.int (b2i (tn_in (nI (m + 7)) 0 13))] σ _ _
                refine ex_if_ne (q := 26) (q2 := 23) dX9_taken_20 rfl rfl (fun _ => ?_) (fun hh => absurd (b2i_n0.mpr (t2)) hh)
                refine ex_iload_n dX9_taken_26 rfl rfl ?_
                refine ex_bipush (x := 7) dX9_taken_27 rfl rfl ?_
                refine ex_icmp_ge (q := 71) (q2 := 32) dX9_taken_29 rfl rfl (fun _ => ?_) (fun hh => absurd (nI_le (a := 7) (b := (m + 7)) (by omega) (by omega)) hh)
                refine ex_iload_n dX9_taken_71 rfl rfl ?_
                refine ex_bipush (x := 7) dX9_taken_72 rfl rfl ?_
                refine ex_isub (z := nI m) dX9_taken_74 rfl (e7) ?_
                refine ex_aload_n dX9_taken_75 rfl rfl ?_
                refine ex_getI (s := 27) (x := nI (tn_L T)) dX9_taken_76 rfl qp_8_78 rfl rfl (h.1.1) ?_
                refine ex_icmp_ge (q := 97) (q2 := 82) dX9_taken_79 rfl rfl (fun hh => absurd hh (nI_ge (a := m) (b := (tn_L T)) (by omega) (by omega))) (fun _ => ?_)
                refine ex_aload_n dX9_taken_82 rfl rfl ?_
                refine ex_iload_n dX9_taken_83 rfl rfl ?_
                refine ex_bipush (x := 7) dX9_taken_84 rfl rfl ?_
                refine ex_isub (z := nI m) dX9_taken_86 rfl (e7) ?_
                refine ex_callV (a := 55) (rest := []) dX9_taken_87 rfl qp_8_89 rfl rfl rfl rfl rfl (Nat.le_of_ble_eq_true rfl) (k_isBuilt hT h (by omega)) (Nat.le_of_ble_eq_true rfl) ?_
                show Ex qm_lay _ mX9_taken 90 [some (.ref 55), some (.int (nI (m + 7))), some (.int 6), none] [.int (b2i (Nat.testBit (tn_u T) m))] σ _ _
                refine ex_if_eq (q := 97) (q2 := 93) dX9_taken_90 rfl rfl (fun hh => absurd hh (b2i_n0.mpr (c3))) (fun _ => ?_)
                refine ex_iconst (x := 1) dX9_taken_93 rfl rfl ?_
                refine ex_goto (q := 98) dX9_taken_94 rfl ?_
                refine ex_istore_n (ls' := [some (.ref 55), some (.int (nI (m + 7))), some (.int 6), some (.int 1)]) dX9_taken_98 rfl (Nat.le_of_ble_eq_true rfl) rfl rfl ?_
                refine ex_iload_n dX9_taken_99 rfl rfl ?_
                refine ex_if_ne (q := 108) (q2 := 103) dX9_taken_100 rfl rfl (fun _ => ?_) (fun hh => absurd (by decide) hh)
                refine ex_iload_n dX9_taken_108 rfl rfl ?_
                refine ex_bipush (x := 6) dX9_taken_109 rfl rfl ?_
                refine ex_icmp_ne (q := 126) (q2 := 114) dX9_taken_111 rfl rfl (fun hh => absurd hh (by decide)) (fun _ => ?_)
                refine ex_aload_n dX9_taken_114 rfl rfl ?_
                refine ex_getR (b := 59) dX9_taken_115 rfl qp_8_19 rfl rfl ?_
                refine ex_iload_n dX9_taken_118 rfl rfl ?_
                refine ex_bipush (x := 7) dX9_taken_119 rfl rfl ?_
                refine ex_isub (z := nI m) dX9_taken_121 rfl (e7) ?_
                refine ex_iaload (k := m) (x := tn_cv T m) dX9_taken_122 rfl rfl (rfl) (by omega) (by decide) (MR.cc h (by omega)) ?_
                refine ex_goto (q := 128) dX9_taken_123 rfl ?_
                exact ex_iret dX9_taken_128 rfl rfl rfl
            · refine J.q hG (.int (-13)) (fun σ hC => ?_) (fun σ hM => ?_)
              · have h : TR σ 9 18 T := hC.1
                refine Ok.of (ls := [some (.ref 54), some (.int (nI (m + 7))), some (.int (nI q)), none, none]) (Nat.le_of_ble_eq_true rfl) rfl ?_
                refine ex_iload_n dX8_taken_0 rfl rfl ?_
                refine ex_if_lt (q := 10) (q2 := 4) dX8_taken_1 rfl rfl (fun hh => absurd hh (nI_pos (by omega))) (fun _ => ?_)
                refine ex_iload_n dX8_taken_4 rfl rfl ?_
                refine ex_bipush (x := 6) dX8_taken_5 rfl rfl ?_
                refine ex_icmp_le (q := 13) (q2 := 10) dX8_taken_7 rfl rfl (fun _ => ?_) (fun hh => absurd (nI_le (a := q) (b := 6) (by omega) (by omega)) hh)
                refine ex_iload_n dX8_taken_13 rfl rfl ?_
                refine ex_if_lt (q := 23) (q2 := 17) dX8_taken_14 rfl rfl (fun hh => absurd hh (nI_pos (by omega))) (fun _ => ?_)
                refine ex_iload_n dX8_taken_17 rfl rfl ?_
                refine ex_bipush (x := 14) dX8_taken_18 rfl rfl ?_
                refine ex_icmp_lt (q := 26) (q2 := 23) dX8_taken_20 rfl rfl (fun _ => ?_) (fun hh => absurd (nI_lt (a := (m + 7)) (b := 14) (by omega) (by omega)) hh)
                refine ex_iload_n dX8_taken_26 rfl rfl ?_
                refine ex_bipush (x := 7) dX8_taken_27 rfl rfl ?_
                refine ex_icmp_ge (q := 36) (q2 := 32) dX8_taken_29 rfl rfl (fun _ => ?_) (fun hh => absurd (nI_le (a := 7) (b := (m + 7)) (by omega) (by omega)) hh)
                refine ex_iconst (x := 0) dX8_taken_36 rfl rfl ?_
                refine ex_istore_n (ls' := [some (.ref 54), some (.int (nI (m + 7))), some (.int (nI q)), some (.int 0), none]) dX8_taken_37 rfl (Nat.le_of_ble_eq_true rfl) rfl rfl ?_
                refine ex_iload_n dX8_taken_38 rfl rfl ?_
                refine ex_if_eq (q := 46) (q2 := 42) dX8_taken_39 rfl rfl (fun _ => ?_) (fun hh => absurd (by decide) hh)
                refine ex_iload_n dX8_taken_46 rfl rfl ?_
                refine ex_bipush (x := 7) dX8_taken_47 rfl rfl ?_
                refine ex_isub (z := nI m) dX8_taken_49 rfl (e7) ?_
                refine ex_istore (ls' := [some (.ref 54), some (.int (nI (m + 7))), some (.int (nI q)), some (.int 0), some (.int (nI m))]) dX8_taken_50 rfl (Nat.le_of_ble_eq_true rfl) rfl rfl ?_
                refine ex_iload_n dX8_taken_52 rfl rfl ?_
                refine ex_if_eq (q := 71) (q2 := 56) dX8_taken_53 rfl rfl (fun _ => ?_) (fun hh => absurd (by decide) hh)
                refine ex_aload_n dX8_taken_71 rfl rfl ?_
                refine ex_getR (b := 22) dX8_taken_72 rfl qp_7_10 rfl rfl ?_
                refine ex_iload dX8_taken_75 rfl rfl ?_
                refine ex_callV (a := 22) (rest := []) dX8_taken_77 rfl qp_7_127 rfl rfl rfl rfl rfl (Nat.le_of_ble_eq_true rfl) (c_isBuilt_0n hT h (by omega)) (Nat.le_of_ble_eq_true rfl) ?_
                show Ex qm_lay _ mX8_taken 80 [some (.ref 54), some (.int (nI (m + 7))), some (.int (nI q)), some (.int 0), some (.int (nI m))] [.int (b2i (Nat.testBit (tn_u T) m))] σ _ _
                refine ex_if_ne (q := 86) (q2 := 83) dX8_taken_80 rfl rfl (fun _ => ?_) (fun hh => absurd (b2i_n0.mpr (c3)) hh)
                refine ex_iload_n dX8_taken_86 rfl rfl ?_
                refine ex_if_eq (q := 115) (q2 := 90) dX8_taken_87 rfl rfl (fun _ => ?_) (fun hh => absurd (by decide) hh)
                refine ex_iload_n dX8_taken_115 rfl rfl ?_
                refine ex_bipush (x := 6) dX8_taken_116 rfl rfl ?_
                refine ex_icmp_ne (q := 133) (q2 := 121) dX8_taken_118 rfl rfl (fun _ => ?_) (fun hh => absurd (fun zz => c4 ((nI_eq (a := q) (b := 6) (by omega) (by decide)).mp zz)) hh)
                refine ex_bipush (x := (-13)) dX8_taken_133 rfl rfl ?_
                exact ex_iret dX8_taken_135 rfl rfl rfl
              · have h : MR σ T := hM.1
                refine Ok.of (ls := [some (.ref 55), some (.int (nI (m + 7))), some (.int (nI q)), none]) (Nat.le_of_ble_eq_true rfl) rfl ?_
                refine ex_iload_n dX9_taken_0 rfl rfl ?_
                refine ex_iconst (x := 0) dX9_taken_1 rfl rfl ?_
                refine ex_bipush (x := 6) dX9_taken_2 rfl rfl ?_
                refine ex_callS (rest := []) dX9_taken_4 rfl qp_8_81 rfl rfl rfl (Nat.le_of_ble_eq_true rfl) (k_in _ _ _ _) (Nat.le_of_ble_eq_true rfl) ?_
                show Ex qm_lay _ mX9_taken 7 [some (.ref 55), some (.int (nI (m + 7))), some (.int (nI q)), none] [.int (b2i (tn_in (nI q) 0 6))] σ _ _
                refine ex_if_ne (q := 13) (q2 := 10) dX9_taken_7 rfl rfl (fun _ => ?_) (fun hh => absurd (b2i_n0.mpr (t1)) hh)
                refine ex_iload_n dX9_taken_13 rfl rfl ?_
                refine ex_iconst (x := 0) dX9_taken_14 rfl rfl ?_
                refine ex_bipush (x := 13) dX9_taken_15 rfl rfl ?_
                refine ex_callS (rest := []) dX9_taken_17 rfl qp_8_81 rfl rfl rfl (Nat.le_of_ble_eq_true rfl) (k_in _ _ _ _) (Nat.le_of_ble_eq_true rfl) ?_
                show Ex qm_lay _ mX9_taken 20 [some (.ref 55), some (.int (nI (m + 7))), some (.int (nI q)), none] [.int (b2i (tn_in (nI (m + 7)) 0 13))] σ _ _
                refine ex_if_ne (q := 26) (q2 := 23) dX9_taken_20 rfl rfl (fun _ => ?_) (fun hh => absurd (b2i_n0.mpr (t2)) hh)
                refine ex_iload_n dX9_taken_26 rfl rfl ?_
                refine ex_bipush (x := 7) dX9_taken_27 rfl rfl ?_
                refine ex_icmp_ge (q := 71) (q2 := 32) dX9_taken_29 rfl rfl (fun _ => ?_) (fun hh => absurd (nI_le (a := 7) (b := (m + 7)) (by omega) (by omega)) hh)
                refine ex_iload_n dX9_taken_71 rfl rfl ?_
                refine ex_bipush (x := 7) dX9_taken_72 rfl rfl ?_
                refine ex_isub (z := nI m) dX9_taken_74 rfl (e7) ?_
                refine ex_aload_n dX9_taken_75 rfl rfl ?_
                refine ex_getI (s := 27) (x := nI (tn_L T)) dX9_taken_76 rfl qp_8_78 rfl rfl (h.1.1) ?_
                refine ex_icmp_ge (q := 97) (q2 := 82) dX9_taken_79 rfl rfl (fun hh => absurd hh (nI_ge (a := m) (b := (tn_L T)) (by omega) (by omega))) (fun _ => ?_)
                refine ex_aload_n dX9_taken_82 rfl rfl ?_
                refine ex_iload_n dX9_taken_83 rfl rfl ?_
                refine ex_bipush (x := 7) dX9_taken_84 rfl rfl ?_
                refine ex_isub (z := nI m) dX9_taken_86 rfl (e7) ?_
                refine ex_callV (a := 55) (rest := []) dX9_taken_87 rfl qp_8_89 rfl rfl rfl rfl rfl (Nat.le_of_ble_eq_true rfl) (k_isBuilt hT h (by omega)) (Nat.le_of_ble_eq_true rfl) ?_
                show Ex qm_lay _ mX9_taken 90 [some (.ref 55), some (.int (nI (m + 7))), some (.int (nI q)), none] [.int (b2i (Nat.testBit (tn_u T) m))] σ _ _
                refine ex_if_eq (q := 97) (q2 := 93) dX9_taken_90 rfl rfl (fun hh => absurd hh (b2i_n0.mpr (c3))) (fun _ => ?_)
                refine ex_iconst (x := 1) dX9_taken_93 rfl rfl ?_
                refine ex_goto (q := 98) dX9_taken_94 rfl ?_
                refine ex_istore_n (ls' := [some (.ref 55), some (.int (nI (m + 7))), some (.int (nI q)), some (.int 1)]) dX9_taken_98 rfl (Nat.le_of_ble_eq_true rfl) rfl rfl ?_
                refine ex_iload_n dX9_taken_99 rfl rfl ?_
                refine ex_if_ne (q := 108) (q2 := 103) dX9_taken_100 rfl rfl (fun _ => ?_) (fun hh => absurd (by decide) hh)
                refine ex_iload_n dX9_taken_108 rfl rfl ?_
                refine ex_bipush (x := 6) dX9_taken_109 rfl rfl ?_
                refine ex_icmp_ne (q := 126) (q2 := 114) dX9_taken_111 rfl rfl (fun _ => ?_) (fun hh => absurd (fun zz => c4 ((nI_eq (a := q) (b := 6) (by omega) (by decide)).mp zz)) hh)
                refine ex_bipush (x := (-13)) dX9_taken_126 rfl rfl ?_
                exact ex_iret dX9_taken_128 rfl rfl rfl
          · refine J.q hG (.int (-11)) (fun σ hC => ?_) (fun σ hM => ?_)
            · have h : TR σ 9 18 T := hC.1
              refine Ok.of (ls := [some (.ref 54), some (.int (nI (m + 7))), some (.int (nI q)), none, none]) (Nat.le_of_ble_eq_true rfl) rfl ?_
              refine ex_iload_n dX8_taken_0 rfl rfl ?_
              refine ex_if_lt (q := 10) (q2 := 4) dX8_taken_1 rfl rfl (fun hh => absurd hh (nI_pos (by omega))) (fun _ => ?_)
              refine ex_iload_n dX8_taken_4 rfl rfl ?_
              refine ex_bipush (x := 6) dX8_taken_5 rfl rfl ?_
              refine ex_icmp_le (q := 13) (q2 := 10) dX8_taken_7 rfl rfl (fun _ => ?_) (fun hh => absurd (nI_le (a := q) (b := 6) (by omega) (by omega)) hh)
              refine ex_iload_n dX8_taken_13 rfl rfl ?_
              refine ex_if_lt (q := 23) (q2 := 17) dX8_taken_14 rfl rfl (fun hh => absurd hh (nI_pos (by omega))) (fun _ => ?_)
              refine ex_iload_n dX8_taken_17 rfl rfl ?_
              refine ex_bipush (x := 14) dX8_taken_18 rfl rfl ?_
              refine ex_icmp_lt (q := 26) (q2 := 23) dX8_taken_20 rfl rfl (fun _ => ?_) (fun hh => absurd (nI_lt (a := (m + 7)) (b := 14) (by omega) (by omega)) hh)
              refine ex_iload_n dX8_taken_26 rfl rfl ?_
              refine ex_bipush (x := 7) dX8_taken_27 rfl rfl ?_
              refine ex_icmp_ge (q := 36) (q2 := 32) dX8_taken_29 rfl rfl (fun _ => ?_) (fun hh => absurd (nI_le (a := 7) (b := (m + 7)) (by omega) (by omega)) hh)
              refine ex_iconst (x := 0) dX8_taken_36 rfl rfl ?_
              refine ex_istore_n (ls' := [some (.ref 54), some (.int (nI (m + 7))), some (.int (nI q)), some (.int 0), none]) dX8_taken_37 rfl (Nat.le_of_ble_eq_true rfl) rfl rfl ?_
              refine ex_iload_n dX8_taken_38 rfl rfl ?_
              refine ex_if_eq (q := 46) (q2 := 42) dX8_taken_39 rfl rfl (fun _ => ?_) (fun hh => absurd (by decide) hh)
              refine ex_iload_n dX8_taken_46 rfl rfl ?_
              refine ex_bipush (x := 7) dX8_taken_47 rfl rfl ?_
              refine ex_isub (z := nI m) dX8_taken_49 rfl (e7) ?_
              refine ex_istore (ls' := [some (.ref 54), some (.int (nI (m + 7))), some (.int (nI q)), some (.int 0), some (.int (nI m))]) dX8_taken_50 rfl (Nat.le_of_ble_eq_true rfl) rfl rfl ?_
              refine ex_iload_n dX8_taken_52 rfl rfl ?_
              refine ex_if_eq (q := 71) (q2 := 56) dX8_taken_53 rfl rfl (fun _ => ?_) (fun hh => absurd (by decide) hh)
              refine ex_aload_n dX8_taken_71 rfl rfl ?_
              refine ex_getR (b := 22) dX8_taken_72 rfl qp_7_10 rfl rfl ?_
              refine ex_iload dX8_taken_75 rfl rfl ?_
              refine ex_callV (a := 22) (rest := []) dX8_taken_77 rfl qp_7_127 rfl rfl rfl rfl rfl (Nat.le_of_ble_eq_true rfl) (c_isBuilt_0n hT h (by omega)) (Nat.le_of_ble_eq_true rfl) ?_
              show Ex qm_lay _ mX8_taken 80 [some (.ref 54), some (.int (nI (m + 7))), some (.int (nI q)), some (.int 0), some (.int (nI m))] [.int (b2i (Nat.testBit (tn_u T) m))] σ _ _
              refine ex_if_ne (q := 86) (q2 := 83) dX8_taken_80 rfl rfl (fun hh => absurd hh (fun zz => zz (b2i_0.mpr (by simpa using c3)))) (fun _ => ?_)
              refine ex_bipush (x := (-11)) dX8_taken_83 rfl rfl ?_
              exact ex_iret dX8_taken_85 rfl rfl rfl
            · have h : MR σ T := hM.1
              refine Ok.of (ls := [some (.ref 55), some (.int (nI (m + 7))), some (.int (nI q)), none]) (Nat.le_of_ble_eq_true rfl) rfl ?_
              refine ex_iload_n dX9_taken_0 rfl rfl ?_
              refine ex_iconst (x := 0) dX9_taken_1 rfl rfl ?_
              refine ex_bipush (x := 6) dX9_taken_2 rfl rfl ?_
              refine ex_callS (rest := []) dX9_taken_4 rfl qp_8_81 rfl rfl rfl (Nat.le_of_ble_eq_true rfl) (k_in _ _ _ _) (Nat.le_of_ble_eq_true rfl) ?_
              show Ex qm_lay _ mX9_taken 7 [some (.ref 55), some (.int (nI (m + 7))), some (.int (nI q)), none] [.int (b2i (tn_in (nI q) 0 6))] σ _ _
              refine ex_if_ne (q := 13) (q2 := 10) dX9_taken_7 rfl rfl (fun _ => ?_) (fun hh => absurd (b2i_n0.mpr (t1)) hh)
              refine ex_iload_n dX9_taken_13 rfl rfl ?_
              refine ex_iconst (x := 0) dX9_taken_14 rfl rfl ?_
              refine ex_bipush (x := 13) dX9_taken_15 rfl rfl ?_
              refine ex_callS (rest := []) dX9_taken_17 rfl qp_8_81 rfl rfl rfl (Nat.le_of_ble_eq_true rfl) (k_in _ _ _ _) (Nat.le_of_ble_eq_true rfl) ?_
              show Ex qm_lay _ mX9_taken 20 [some (.ref 55), some (.int (nI (m + 7))), some (.int (nI q)), none] [.int (b2i (tn_in (nI (m + 7)) 0 13))] σ _ _
              refine ex_if_ne (q := 26) (q2 := 23) dX9_taken_20 rfl rfl (fun _ => ?_) (fun hh => absurd (b2i_n0.mpr (t2)) hh)
              refine ex_iload_n dX9_taken_26 rfl rfl ?_
              refine ex_bipush (x := 7) dX9_taken_27 rfl rfl ?_
              refine ex_icmp_ge (q := 71) (q2 := 32) dX9_taken_29 rfl rfl (fun _ => ?_) (fun hh => absurd (nI_le (a := 7) (b := (m + 7)) (by omega) (by omega)) hh)
              refine ex_iload_n dX9_taken_71 rfl rfl ?_
              refine ex_bipush (x := 7) dX9_taken_72 rfl rfl ?_
              refine ex_isub (z := nI m) dX9_taken_74 rfl (e7) ?_
              refine ex_aload_n dX9_taken_75 rfl rfl ?_
              refine ex_getI (s := 27) (x := nI (tn_L T)) dX9_taken_76 rfl qp_8_78 rfl rfl (h.1.1) ?_
              refine ex_icmp_ge (q := 97) (q2 := 82) dX9_taken_79 rfl rfl (fun hh => absurd hh (nI_ge (a := m) (b := (tn_L T)) (by omega) (by omega))) (fun _ => ?_)
              refine ex_aload_n dX9_taken_82 rfl rfl ?_
              refine ex_iload_n dX9_taken_83 rfl rfl ?_
              refine ex_bipush (x := 7) dX9_taken_84 rfl rfl ?_
              refine ex_isub (z := nI m) dX9_taken_86 rfl (e7) ?_
              refine ex_callV (a := 55) (rest := []) dX9_taken_87 rfl qp_8_89 rfl rfl rfl rfl rfl (Nat.le_of_ble_eq_true rfl) (k_isBuilt hT h (by omega)) (Nat.le_of_ble_eq_true rfl) ?_
              show Ex qm_lay _ mX9_taken 90 [some (.ref 55), some (.int (nI (m + 7))), some (.int (nI q)), none] [.int (b2i (Nat.testBit (tn_u T) m))] σ _ _
              refine ex_if_eq (q := 97) (q2 := 93) dX9_taken_90 rfl rfl (fun _ => ?_) (fun hh => absurd (b2i_0.mpr (by simpa using c3)) hh)
              refine ex_iconst (x := 0) dX9_taken_97 rfl rfl ?_
              refine ex_istore_n (ls' := [some (.ref 55), some (.int (nI (m + 7))), some (.int (nI q)), some (.int 0)]) dX9_taken_98 rfl (Nat.le_of_ble_eq_true rfl) rfl rfl ?_
              refine ex_iload_n dX9_taken_99 rfl rfl ?_
              refine ex_if_ne (q := 108) (q2 := 103) dX9_taken_100 rfl rfl (fun hh => absurd hh (by decide)) (fun _ => ?_)
              refine ex_bipush (x := (-11)) dX9_taken_103 rfl rfl ?_
              refine ex_goto (q := 128) dX9_taken_105 rfl ?_
              exact ex_iret dX9_taken_128 rfl rfl rfl
        · refine J.q hG (.int (-11)) (fun σ hC => ?_) (fun σ hM => ?_)
          · have h : TR σ 9 18 T := hC.1
            refine Ok.of (ls := [some (.ref 54), some (.int (nI (m + 7))), some (.int (nI q)), none, none]) (Nat.le_of_ble_eq_true rfl) rfl ?_
            refine ex_iload_n dX8_taken_0 rfl rfl ?_
            refine ex_if_lt (q := 10) (q2 := 4) dX8_taken_1 rfl rfl (fun hh => absurd hh (nI_pos (by omega))) (fun _ => ?_)
            refine ex_iload_n dX8_taken_4 rfl rfl ?_
            refine ex_bipush (x := 6) dX8_taken_5 rfl rfl ?_
            refine ex_icmp_le (q := 13) (q2 := 10) dX8_taken_7 rfl rfl (fun _ => ?_) (fun hh => absurd (nI_le (a := q) (b := 6) (by omega) (by omega)) hh)
            refine ex_iload_n dX8_taken_13 rfl rfl ?_
            refine ex_if_lt (q := 23) (q2 := 17) dX8_taken_14 rfl rfl (fun hh => absurd hh (nI_pos (by omega))) (fun _ => ?_)
            refine ex_iload_n dX8_taken_17 rfl rfl ?_
            refine ex_bipush (x := 14) dX8_taken_18 rfl rfl ?_
            refine ex_icmp_lt (q := 26) (q2 := 23) dX8_taken_20 rfl rfl (fun _ => ?_) (fun hh => absurd (nI_lt (a := (m + 7)) (b := 14) (by omega) (by omega)) hh)
            refine ex_iload_n dX8_taken_26 rfl rfl ?_
            refine ex_bipush (x := 7) dX8_taken_27 rfl rfl ?_
            refine ex_icmp_ge (q := 36) (q2 := 32) dX8_taken_29 rfl rfl (fun _ => ?_) (fun hh => absurd (nI_le (a := 7) (b := (m + 7)) (by omega) (by omega)) hh)
            refine ex_iconst (x := 0) dX8_taken_36 rfl rfl ?_
            refine ex_istore_n (ls' := [some (.ref 54), some (.int (nI (m + 7))), some (.int (nI q)), some (.int 0), none]) dX8_taken_37 rfl (Nat.le_of_ble_eq_true rfl) rfl rfl ?_
            refine ex_iload_n dX8_taken_38 rfl rfl ?_
            refine ex_if_eq (q := 46) (q2 := 42) dX8_taken_39 rfl rfl (fun _ => ?_) (fun hh => absurd (by decide) hh)
            refine ex_iload_n dX8_taken_46 rfl rfl ?_
            refine ex_bipush (x := 7) dX8_taken_47 rfl rfl ?_
            refine ex_isub (z := nI m) dX8_taken_49 rfl (e7) ?_
            refine ex_istore (ls' := [some (.ref 54), some (.int (nI (m + 7))), some (.int (nI q)), some (.int 0), some (.int (nI m))]) dX8_taken_50 rfl (Nat.le_of_ble_eq_true rfl) rfl rfl ?_
            refine ex_iload_n dX8_taken_52 rfl rfl ?_
            refine ex_if_eq (q := 71) (q2 := 56) dX8_taken_53 rfl rfl (fun _ => ?_) (fun hh => absurd (by decide) hh)
            refine ex_aload_n dX8_taken_71 rfl rfl ?_
            refine ex_getR (b := 22) dX8_taken_72 rfl qp_7_10 rfl rfl ?_
            refine ex_iload dX8_taken_75 rfl rfl ?_
            refine ex_callV (a := 22) (rest := []) dX8_taken_77 rfl qp_7_127 rfl rfl rfl rfl rfl (Nat.le_of_ble_eq_true rfl) (c_isBuilt_0 hT h (nI m)) (Nat.le_of_ble_eq_true rfl) ?_
            show Ex qm_lay _ mX8_taken 80 [some (.ref 54), some (.int (nI (m + 7))), some (.int (nI q)), some (.int 0), some (.int (nI m))] [.int (b2i (tn_blt T (nI m)))] σ _ _
            refine ex_if_ne (q := 86) (q2 := 83) dX8_taken_80 rfl rfl (fun hh => absurd hh (fun zz => zz (b2i_0.mpr ((by rw [tn_blt, tn_has_nf hT c2 (by omega)]; rfl))))) (fun _ => ?_)
            refine ex_bipush (x := (-11)) dX8_taken_83 rfl rfl ?_
            exact ex_iret dX8_taken_85 rfl rfl rfl
          · have h : MR σ T := hM.1
            refine Ok.of (ls := [some (.ref 55), some (.int (nI (m + 7))), some (.int (nI q)), none]) (Nat.le_of_ble_eq_true rfl) rfl ?_
            refine ex_iload_n dX9_taken_0 rfl rfl ?_
            refine ex_iconst (x := 0) dX9_taken_1 rfl rfl ?_
            refine ex_bipush (x := 6) dX9_taken_2 rfl rfl ?_
            refine ex_callS (rest := []) dX9_taken_4 rfl qp_8_81 rfl rfl rfl (Nat.le_of_ble_eq_true rfl) (k_in _ _ _ _) (Nat.le_of_ble_eq_true rfl) ?_
            show Ex qm_lay _ mX9_taken 7 [some (.ref 55), some (.int (nI (m + 7))), some (.int (nI q)), none] [.int (b2i (tn_in (nI q) 0 6))] σ _ _
            refine ex_if_ne (q := 13) (q2 := 10) dX9_taken_7 rfl rfl (fun _ => ?_) (fun hh => absurd (b2i_n0.mpr (t1)) hh)
            refine ex_iload_n dX9_taken_13 rfl rfl ?_
            refine ex_iconst (x := 0) dX9_taken_14 rfl rfl ?_
            refine ex_bipush (x := 13) dX9_taken_15 rfl rfl ?_
            refine ex_callS (rest := []) dX9_taken_17 rfl qp_8_81 rfl rfl rfl (Nat.le_of_ble_eq_true rfl) (k_in _ _ _ _) (Nat.le_of_ble_eq_true rfl) ?_
            show Ex qm_lay _ mX9_taken 20 [some (.ref 55), some (.int (nI (m + 7))), some (.int (nI q)), none] [.int (b2i (tn_in (nI (m + 7)) 0 13))] σ _ _
            refine ex_if_ne (q := 26) (q2 := 23) dX9_taken_20 rfl rfl (fun _ => ?_) (fun hh => absurd (b2i_n0.mpr (t2)) hh)
            refine ex_iload_n dX9_taken_26 rfl rfl ?_
            refine ex_bipush (x := 7) dX9_taken_27 rfl rfl ?_
            refine ex_icmp_ge (q := 71) (q2 := 32) dX9_taken_29 rfl rfl (fun _ => ?_) (fun hh => absurd (nI_le (a := 7) (b := (m + 7)) (by omega) (by omega)) hh)
            refine ex_iload_n dX9_taken_71 rfl rfl ?_
            refine ex_bipush (x := 7) dX9_taken_72 rfl rfl ?_
            refine ex_isub (z := nI m) dX9_taken_74 rfl (e7) ?_
            refine ex_aload_n dX9_taken_75 rfl rfl ?_
            refine ex_getI (s := 27) (x := nI (tn_L T)) dX9_taken_76 rfl qp_8_78 rfl rfl (h.1.1) ?_
            refine ex_icmp_ge (q := 97) (q2 := 82) dX9_taken_79 rfl rfl (fun _ => ?_) (fun hh => absurd (nI_le (a := (tn_L T)) (b := m) (by omega) (by omega)) hh)
            refine ex_iconst (x := 0) dX9_taken_97 rfl rfl ?_
            refine ex_istore_n (ls' := [some (.ref 55), some (.int (nI (m + 7))), some (.int (nI q)), some (.int 0)]) dX9_taken_98 rfl (Nat.le_of_ble_eq_true rfl) rfl rfl ?_
            refine ex_iload_n dX9_taken_99 rfl rfl ?_
            refine ex_if_ne (q := 108) (q2 := 103) dX9_taken_100 rfl rfl (fun hh => absurd hh (by decide)) (fun _ => ?_)
            refine ex_bipush (x := (-11)) dX9_taken_103 rfl rfl ?_
            refine ex_goto (q := 128) dX9_taken_105 rfl ?_
            exact ex_iret dX9_taken_128 rfl rfl rfl
    · have t1 : tn_in (nI q) 0 6 = true := tn_in_t (x := 0) (y := 6) (Nat.zero_le _) hq (by decide)
      refine J.q hG (.int (-12)) (fun σ hC => ?_) (fun σ hM => ?_)
      · have h : TR σ 9 18 T := hC.1
        refine Ok.of (ls := [some (.ref 54), some (.int i), some (.int (nI q)), none, none]) (Nat.le_of_ble_eq_true rfl) rfl ?_
        refine ex_iload_n dX8_taken_0 rfl rfl ?_
        refine ex_if_lt (q := 10) (q2 := 4) dX8_taken_1 rfl rfl (fun hh => absurd hh (nI_pos (by omega))) (fun _ => ?_)
        refine ex_iload_n dX8_taken_4 rfl rfl ?_
        refine ex_bipush (x := 6) dX8_taken_5 rfl rfl ?_
        refine ex_icmp_le (q := 13) (q2 := 10) dX8_taken_7 rfl rfl (fun _ => ?_) (fun hh => absurd (nI_le (a := q) (b := 6) (by omega) (by omega)) hh)
        refine ex_iload_n dX8_taken_13 rfl rfl ?_
        refine ex_if_lt (q := 23) (q2 := 17) dX8_taken_14 rfl rfl (fun h14 => ?_) (fun h14 => ?_)
        · refine ex_bipush (x := (-12)) dX8_taken_23 rfl rfl ?_
          exact ex_iret dX8_taken_25 rfl rfl rfl
        · have hge : ¬ i < 14 := fun z => by
            have e1 : (14 : Int32).toInt = 14 := rfl
            have e0 : (0 : Int32).toInt = 0 := rfl
            simp only [Int32.lt_iff_toInt_lt, e1, e0] at z h14
            omega
          refine ex_iload_n dX8_taken_17 rfl rfl ?_
          refine ex_bipush (x := 14) dX8_taken_18 rfl rfl ?_
          refine ex_icmp_lt (q := 26) (q2 := 23) dX8_taken_20 rfl rfl (fun hh => absurd hh (hge)) (fun _ => ?_)
          refine ex_bipush (x := (-12)) dX8_taken_23 rfl rfl ?_
          exact ex_iret dX8_taken_25 rfl rfl rfl
      · have h : MR σ T := hM.1
        refine Ok.of (ls := [some (.ref 55), some (.int i), some (.int (nI q)), none]) (Nat.le_of_ble_eq_true rfl) rfl ?_
        refine ex_iload_n dX9_taken_0 rfl rfl ?_
        refine ex_iconst (x := 0) dX9_taken_1 rfl rfl ?_
        refine ex_bipush (x := 6) dX9_taken_2 rfl rfl ?_
        refine ex_callS (rest := []) dX9_taken_4 rfl qp_8_81 rfl rfl rfl (Nat.le_of_ble_eq_true rfl) (k_in _ _ _ _) (Nat.le_of_ble_eq_true rfl) ?_
        show Ex qm_lay _ mX9_taken 7 [some (.ref 55), some (.int i), some (.int (nI q)), none] [.int (b2i (tn_in (nI q) 0 6))] σ _ _
        refine ex_if_ne (q := 13) (q2 := 10) dX9_taken_7 rfl rfl (fun _ => ?_) (fun hh => absurd (b2i_n0.mpr (t1)) hh)
        refine ex_iload_n dX9_taken_13 rfl rfl ?_
        refine ex_iconst (x := 0) dX9_taken_14 rfl rfl ?_
        refine ex_bipush (x := 13) dX9_taken_15 rfl rfl ?_
        refine ex_callS (rest := []) dX9_taken_17 rfl qp_8_81 rfl rfl rfl (Nat.le_of_ble_eq_true rfl) (k_in _ _ _ _) (Nat.le_of_ble_eq_true rfl) ?_
        show Ex qm_lay _ mX9_taken 20 [some (.ref 55), some (.int i), some (.int (nI q)), none] [.int (b2i (tn_in i 0 13))] σ _ _
        refine ex_if_ne (q := 26) (q2 := 23) dX9_taken_20 rfl rfl (fun hh => absurd hh (fun zz => zz (b2i_0.mpr (tn_in_o (n := 13) (by decide) hi)))) (fun _ => ?_)
        refine ex_bipush (x := (-12)) dX9_taken_23 rfl rfl ?_
        exact ex_iret dX9_taken_25 rfl rfl rfl
  · refine J.q hG (.int (-2)) (fun σ hC => ?_) (fun σ hM => ?_)
    · have h : TR σ 9 18 T := hC.1
      refine Ok.of (ls := [some (.ref 54), some (.int i), some (.int k), none, none]) (Nat.le_of_ble_eq_true rfl) rfl ?_
      refine ex_iload_n dX8_taken_0 rfl rfl ?_
      refine ex_if_lt (q := 10) (q2 := 4) dX8_taken_1 rfl rfl (fun h1 => ?_) (fun h1 => ?_)
      · refine ex_bipush (x := (-2)) dX8_taken_10 rfl rfl ?_
        exact ex_iret dX8_taken_12 rfl rfl rfl
      · have hge : ¬ k ≤ 6 := fun z => by
          have e1 : (6 : Int32).toInt = 6 := rfl
          have e0 : (0 : Int32).toInt = 0 := rfl
          simp only [Int32.lt_iff_toInt_lt, Int32.le_iff_toInt_le, e1, e0] at z h1
          omega
        refine ex_iload_n dX8_taken_4 rfl rfl ?_
        refine ex_bipush (x := 6) dX8_taken_5 rfl rfl ?_
        refine ex_icmp_le (q := 13) (q2 := 10) dX8_taken_7 rfl rfl (fun hh => absurd hh (hge)) (fun _ => ?_)
        refine ex_bipush (x := (-2)) dX8_taken_10 rfl rfl ?_
        exact ex_iret dX8_taken_12 rfl rfl rfl
    · have h : MR σ T := hM.1
      refine Ok.of (ls := [some (.ref 55), some (.int i), some (.int k), none]) (Nat.le_of_ble_eq_true rfl) rfl ?_
      refine ex_iload_n dX9_taken_0 rfl rfl ?_
      refine ex_iconst (x := 0) dX9_taken_1 rfl rfl ?_
      refine ex_bipush (x := 6) dX9_taken_2 rfl rfl ?_
      refine ex_callS (rest := []) dX9_taken_4 rfl qp_8_81 rfl rfl rfl (Nat.le_of_ble_eq_true rfl) (k_in _ _ _ _) (Nat.le_of_ble_eq_true rfl) ?_
      show Ex qm_lay _ mX9_taken 7 [some (.ref 55), some (.int i), some (.int k), none] [.int (b2i (tn_in k 0 6))] σ _ _
      refine ex_if_ne (q := 13) (q2 := 10) dX9_taken_7 rfl rfl (fun hh => absurd hh (fun zz => zz (b2i_0.mpr (tn_in_o (n := 6) (by decide) hk)))) (fun _ => ?_)
      refine ex_bipush (x := (-2)) dX9_taken_10 rfl rfl ?_
      exact ex_iret dX9_taken_12 rfl rfl rfl

