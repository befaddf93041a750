/-! ===== the other side reads a part: its loop ===== -/
theorem unw_top {k : Nat} : ∀ {H : List Nat} {o : Nat} {cs : List Nat} {s : Nat} {V : List Nat}, (unw k H o cs).1 = s :: V → rk s < k
  | [], _, _, _, _, h => by cases h
  | a :: H, o, cs, s, V, h => by
    rw [unw] at h
    split at h
    · exact unw_top h
    · have e : a = s := (List.cons.inj h).1
      rw [← e]; omega
theorem hm_n1 {s : Nat} (h : hm s < 20) : ¬ nI (hm s) = -1 := fun z => by
  have e := congrArg Int32.toInt z
  rw [nI_toInt (by omega)] at e
  have e1 : (-1 : Int32).toInt = -1 := rfl
  rw [e1] at e
  omega
theorem gx_m1 {v : Nat} (h : v < 10000) : gx_m v = 100000 + v := by unfold gx_m; rw [if_pos h]
theorem gx_m2 {v : Nat} (h : v < 6) : gx_m (10000 + v) = v := by unfold gx_m; rw [if_neg (by omega), if_pos (by omega)]; omega

set_option maxRecDepth 8000 in
set_option maxHeartbeats 2000000 in
theorem l_eRead {t : gt_T} (hk : gt_ok t) {n : Nat} (hn : n < 6) : ∀ f : Nat, (∀ (mn : Bool) (i : Nat) (u : uS) (σ : qm_St) (r : tR) (x : Option Value), rnA t f (some mn, i, u) = some r → INV t n σ i u → u.2.2.length + u.1.length ≤ i → i ≤ 160 → ∃ σ', Ex qm_lay 3 mX9_eRead 14 [some (.ref 55), some (.int 1), some (.int (b2i mn)), x] [] σ (some (.int (b2i (okv r)))) σ' ∧ PPM t n σ' r ∧ sq 36 n σ σ') ∧ (∀ (y : Int32) (i : Nat) (u : uS) (σ : qm_St) (r : tR) (x : Option Value), rnA t f (none, i, u) = some r → INV t n σ i u → u.2.2.length + u.1.length ≤ i → i ≤ 160 → ∃ σ', Ex qm_lay 3 mX9_eRead 14 [some (.ref 55), some (.int 0), some (.int y), x] [] σ (some (.int (b2i (okv r)))) σ' ∧ PPM t n σ' r ∧ sq 36 n σ σ') := by
  have h160 := hk.1
  intro f
  induction f with
  | zero => exact ⟨fun mn i u σ r x hr => by (cases hr), fun y i u σ r x hr => by (cases hr)⟩
  | succ f ih =>
    refine ⟨fun mn i u σ r x hr hI hb hi => ?_, fun y i u σ r x hr hI hb hi => ?_⟩
    · obtain ⟨H, o, cs⟩ := u
      have hb2 : cs.length + H.length ≤ i := hb
      obtain ⟨σ1, hO1, h1, g1⟩ := nextM hk hI
      have hL := h1.2.2.1
      have h38 : qm_rI σ1 38 = rtk (tk t i) := hL.2.1
      have h37 : qm_rI σ1 37 = nI (tpl t i) := hL.1
      have t256 := tk_lt hk i
      obtain ⟨q1, q2, q6, q45, q40, q59, q41, -, -⟩ := rtk_k (tk t i) t256
      have tn : tk t i ≠ 0 → i + 1 ≤ 160 := fun z => by have := (tk_n0 z).2; omega
      rw [rnA] at hr
      rw [show stp t (some mn, i, H, o, cs) = stT t mn i (H, o, cs) from rfl] at hr
      unfold stT at hr
      by_cases c1 : tk t i = 1
      · rw [if_pos c1] at hr
        have h39 : qm_rI σ1 39 = nI (tvl t i) := hL.2.2.1 (Or.inl c1)
        have hv := tvl_1 (t := t) c1
        obtain ⟨σ2, hO2, h2, g2⟩ := putsC hn h1 (by omega) (tvl t i)
        rw [gx_m1 hv] at hO2
        obtain ⟨σ3, hO3, h3, g3⟩ := unwC hn h2 (k := 7) (by decide) (by decide) (by rw [List.length_append, List.length_singleton]; omega)
        have hl := unw_len 7 H o (cs ++ [tvl t i])
        rw [List.length_append, List.length_singleton] at hl
        obtain ⟨σ', hE, hQ, g4⟩ := ih.2 (b2i mn) (i + 1) (unw 7 H o (cs ++ [tvl t i])) σ3 r x hr (h3.inv (by omega)) (by omega) (tn (by omega))
        refine ⟨σ', ?_, hQ, g1.tr ((g2.wid (by omega)).tr ((g3.wid (by omega)).tr g4))⟩
        have k1 := q1.mpr c1
        refine ex_aload_n dX9_eRead_14 rfl rfl ?_
        refine ex_callV (a := 55) (rest := []) dX9_eRead_15 rfl qp_8_152 rfl rfl rfl rfl rfl (Nat.le_of_ble_eq_true rfl) (hO1) (Nat.le_of_ble_eq_true rfl) ?_
        show Ex qm_lay _ mX9_eRead 18 [some (.ref 55), some (.int 1), some (.int (b2i mn)), x] [] σ1 _ _
        refine ex_iload_n dX9_eRead_18 rfl rfl ?_
        refine ex_if_eq (q := 150) (q2 := 22) dX9_eRead_19 rfl rfl (fun hh => absurd hh (by decide)) (fun _ => ?_)
        refine ex_aload_n dX9_eRead_22 rfl rfl ?_
        refine ex_getI (s := 38) (x := rtk (tk t i)) dX9_eRead_23 rfl qp_8_120 rfl rfl (h38) ?_
        refine ex_iconst (x := 1) dX9_eRead_26 rfl rfl ?_
        refine ex_icmp_eq (q := 38) (q2 := 30) dX9_eRead_27 rfl rfl (fun _ => ?_) (fun hh => absurd (k1) hh)
        refine ex_aload_n dX9_eRead_38 rfl rfl ?_
        refine ex_aload_n dX9_eRead_39 rfl rfl ?_
        refine ex_getI (s := 38) (x := rtk (tk t i)) dX9_eRead_40 rfl qp_8_120 rfl rfl (h38) ?_
        refine ex_iconst (x := 1) dX9_eRead_43 rfl rfl ?_
        refine ex_icmp_ne (q := 57) (q2 := 47) dX9_eRead_44 rfl rfl (fun hh => absurd hh (fun zz => zz k1)) (fun _ => ?_)
        refine ex_ldc (x := 100000) dX9_eRead_47 rfl qp_8_155 ?_
        refine ex_aload_n dX9_eRead_49 rfl rfl ?_
        refine ex_getI (s := 39) (x := nI (tvl t i)) dX9_eRead_50 rfl qp_8_123 rfl rfl (h39) ?_
        refine ex_iadd (z := nI (100000 + (tvl t i))) dX9_eRead_53 rfl (nI_add 100000 (tvl t i)) ?_
        refine ex_goto (q := 61) dX9_eRead_54 rfl ?_
        refine ex_callV (a := 55) (rest := []) dX9_eRead_61 rfl qp_8_142 rfl rfl rfl rfl rfl (Nat.le_of_ble_eq_true rfl) (hO2) (Nat.le_of_ble_eq_true rfl) ?_
        show Ex qm_lay _ mX9_eRead 64 [some (.ref 55), some (.int 1), some (.int (b2i mn)), x] [] σ2 _ _
        refine ex_aload_n dX9_eRead_64 rfl rfl ?_
        refine ex_bipush (x := 7) dX9_eRead_65 rfl rfl ?_
        refine ex_callV (a := 55) (rest := []) dX9_eRead_67 rfl qp_8_149 rfl rfl rfl rfl rfl (Nat.le_of_ble_eq_true rfl) (hO3) (Nat.le_of_ble_eq_true rfl) ?_
        show Ex qm_lay _ mX9_eRead 70 [some (.ref 55), some (.int 1), some (.int (b2i mn)), x] [] σ3 _ _
        refine ex_iconst (x := 0) dX9_eRead_70 rfl rfl ?_
        refine ex_istore_n (ls' := [some (.ref 55), some (.int 0), some (.int (b2i mn)), x]) dX9_eRead_71 rfl (Nat.le_of_ble_eq_true rfl) rfl rfl ?_
        refine ex_goto (q := 14) dX9_eRead_72 rfl ?_
        exact hE
      · rw [if_neg c1] at hr
        by_cases c2 : tk t i = 2
        · rw [if_pos c2] at hr
          have h39 : qm_rI σ1 39 = nI (tvl t i) := hL.2.2.1 (Or.inr c2)
          have hv := tvl_2 (t := t) c2
          obtain ⟨σ2, hO2, h2, g2⟩ := putsC hn h1 (by omega) (10000 + tvl t i)
          rw [gx_m2 hv] at hO2
          obtain ⟨σ3, hO3, h3, g3⟩ := unwC hn h2 (k := 7) (by decide) (by decide) (by rw [List.length_append, List.length_singleton]; omega)
          have hl := unw_len 7 H o (cs ++ [10000 + tvl t i])
          rw [List.length_append, List.length_singleton] at hl
          obtain ⟨σ', hE, hQ, g4⟩ := ih.2 (b2i mn) (i + 1) (unw 7 H o (cs ++ [10000 + tvl t i])) σ3 r x hr (h3.inv (by omega)) (by omega) (tn (by omega))
          refine ⟨σ', ?_, hQ, g1.tr ((g2.wid (by omega)).tr ((g3.wid (by omega)).tr g4))⟩
          have k2 := q2.mpr c2
          have k1 := mt q1.mp (show ¬ tk t i = 1 by omega)
          refine ex_aload_n dX9_eRead_14 rfl rfl ?_
          refine ex_callV (a := 55) (rest := []) dX9_eRead_15 rfl qp_8_152 rfl rfl rfl rfl rfl (Nat.le_of_ble_eq_true rfl) (hO1) (Nat.le_of_ble_eq_true rfl) ?_
          show Ex qm_lay _ mX9_eRead 18 [some (.ref 55), some (.int 1), some (.int (b2i mn)), x] [] σ1 _ _
          refine ex_iload_n dX9_eRead_18 rfl rfl ?_
          refine ex_if_eq (q := 150) (q2 := 22) dX9_eRead_19 rfl rfl (fun hh => absurd hh (by decide)) (fun _ => ?_)
          refine ex_aload_n dX9_eRead_22 rfl rfl ?_
          refine ex_getI (s := 38) (x := rtk (tk t i)) dX9_eRead_23 rfl qp_8_120 rfl rfl (h38) ?_
          refine ex_iconst (x := 1) dX9_eRead_26 rfl rfl ?_
          refine ex_icmp_eq (q := 38) (q2 := 30) dX9_eRead_27 rfl rfl (fun hh => absurd hh (k1)) (fun _ => ?_)
          refine ex_aload_n dX9_eRead_30 rfl rfl ?_
          refine ex_getI (s := 38) (x := rtk (tk t i)) dX9_eRead_31 rfl qp_8_120 rfl rfl (h38) ?_
          refine ex_iconst (x := 2) dX9_eRead_34 rfl rfl ?_
          refine ex_icmp_ne (q := 75) (q2 := 38) dX9_eRead_35 rfl rfl (fun hh => absurd hh (fun zz => zz k2)) (fun _ => ?_)
          refine ex_aload_n dX9_eRead_38 rfl rfl ?_
          refine ex_aload_n dX9_eRead_39 rfl rfl ?_
          refine ex_getI (s := 38) (x := rtk (tk t i)) dX9_eRead_40 rfl qp_8_120 rfl rfl (h38) ?_
          refine ex_iconst (x := 1) dX9_eRead_43 rfl rfl ?_
          refine ex_icmp_ne (q := 57) (q2 := 47) dX9_eRead_44 rfl rfl (fun _ => ?_) (fun hh => absurd (k1) hh)
          refine ex_aload_n dX9_eRead_57 rfl rfl ?_
          refine ex_getI (s := 39) (x := nI (tvl t i)) dX9_eRead_58 rfl qp_8_123 rfl rfl (h39) ?_
          refine ex_callV (a := 55) (rest := []) dX9_eRead_61 rfl qp_8_142 rfl rfl rfl rfl rfl (Nat.le_of_ble_eq_true rfl) (hO2) (Nat.le_of_ble_eq_true rfl) ?_
          show Ex qm_lay _ mX9_eRead 64 [some (.ref 55), some (.int 1), some (.int (b2i mn)), x] [] σ2 _ _
          refine ex_aload_n dX9_eRead_64 rfl rfl ?_
          refine ex_bipush (x := 7) dX9_eRead_65 rfl rfl ?_
          refine ex_callV (a := 55) (rest := []) dX9_eRead_67 rfl qp_8_149 rfl rfl rfl rfl rfl (Nat.le_of_ble_eq_true rfl) (hO3) (Nat.le_of_ble_eq_true rfl) ?_
          show Ex qm_lay _ mX9_eRead 70 [some (.ref 55), some (.int 1), some (.int (b2i mn)), x] [] σ3 _ _
          refine ex_iconst (x := 0) dX9_eRead_70 rfl rfl ?_
          refine ex_istore_n (ls' := [some (.ref 55), some (.int 0), some (.int (b2i mn)), x]) dX9_eRead_71 rfl (Nat.le_of_ble_eq_true rfl) rfl rfl ?_
          refine ex_goto (q := 14) dX9_eRead_72 rfl ?_
          exact hE
        · rw [if_neg c2] at hr
          by_cases c9 : tk t i = 9 ∧ mn = true
          · rw [if_pos c9] at hr
            have cc9 := c9.1
            obtain ⟨hX, hY⟩ := opensC hn h1 (s := 20009) (by omega) (by unfold okS; omega) rfl
            by_cases c5 : o = 5
            · rw [if_pos (show (H, o, cs).2.1 = 5 from c5)] at hr
              have er : (.inl i : tR) = r := Option.some.inj hr
              subst er
              refine ⟨σ1, ?_, h37, g1⟩
              have k1 := mt q1.mp (show ¬ tk t i = 1 by omega)
              have k2 := mt q2.mp (show ¬ tk t i = 2 by omega)
              have k6 := q6.mpr c9.1
              have hO2 := hX c5
              refine ex_aload_n dX9_eRead_14 rfl rfl ?_
              refine ex_callV (a := 55) (rest := []) dX9_eRead_15 rfl qp_8_152 rfl rfl rfl rfl rfl (Nat.le_of_ble_eq_true rfl) (hO1) (Nat.le_of_ble_eq_true rfl) ?_
              show Ex qm_lay _ mX9_eRead 18 [some (.ref 55), some (.int 1), some (.int (b2i mn)), x] [] σ1 _ _
              refine ex_iload_n dX9_eRead_18 rfl rfl ?_
              refine ex_if_eq (q := 150) (q2 := 22) dX9_eRead_19 rfl rfl (fun hh => absurd hh (by decide)) (fun _ => ?_)
              refine ex_aload_n dX9_eRead_22 rfl rfl ?_
              refine ex_getI (s := 38) (x := rtk (tk t i)) dX9_eRead_23 rfl qp_8_120 rfl rfl (h38) ?_
              refine ex_iconst (x := 1) dX9_eRead_26 rfl rfl ?_
              refine ex_icmp_eq (q := 38) (q2 := 30) dX9_eRead_27 rfl rfl (fun hh => absurd hh (k1)) (fun _ => ?_)
              refine ex_aload_n dX9_eRead_30 rfl rfl ?_
              refine ex_getI (s := 38) (x := rtk (tk t i)) dX9_eRead_31 rfl qp_8_120 rfl rfl (h38) ?_
              refine ex_iconst (x := 2) dX9_eRead_34 rfl rfl ?_
              refine ex_icmp_ne (q := 75) (q2 := 38) dX9_eRead_35 rfl rfl (fun _ => ?_) (fun hh => absurd (k2) hh)
              refine ex_aload_n dX9_eRead_75 rfl rfl ?_
              refine ex_getI (s := 38) (x := rtk (tk t i)) dX9_eRead_76 rfl qp_8_120 rfl rfl (h38) ?_
              refine ex_bipush (x := 6) dX9_eRead_79 rfl rfl ?_
              refine ex_icmp_ne (q := 99) (q2 := 84) dX9_eRead_81 rfl rfl (fun hh => absurd hh (fun zz => zz k6)) (fun _ => ?_)
              refine ex_iload_n dX9_eRead_84 rfl rfl ?_
              refine ex_if_eq (q := 99) (q2 := 88) dX9_eRead_85 rfl rfl (fun hh => absurd hh (b2i_n0.mpr (c9.2))) (fun _ => ?_)
              refine ex_aload_n dX9_eRead_88 rfl rfl ?_
              refine ex_bipush (x := 13) dX9_eRead_89 rfl rfl ?_
              refine ex_callV (a := 55) (rest := []) dX9_eRead_91 rfl qp_8_156 rfl rfl rfl rfl rfl (Nat.le_of_ble_eq_true rfl) (hO2) (Nat.le_of_ble_eq_true rfl) ?_
              show Ex qm_lay _ mX9_eRead 94 [some (.ref 55), some (.int 1), some (.int (b2i mn)), x] [.int 0] σ1 _ _
              refine ex_if_ne (q := 14) (q2 := 97) dX9_eRead_94 rfl rfl (fun hh => absurd hh (by decide)) (fun _ => ?_)
              refine ex_iconst (x := 0) dX9_eRead_97 rfl rfl ?_
              exact ex_zret dX9_eRead_98 rfl (by decide) rfl rfl
            · rw [if_neg (show ¬ (H, o, cs).2.1 = 5 from c5)] at hr
              obtain ⟨σ2, hO2, h2, g2⟩ := hY c5
              obtain ⟨σ', hE, hQ, g3⟩ := ih.1 mn (i + 1) _ σ2 r x hr (h2.inv (by omega)) (by show cs.length + (20009 :: H).length ≤ i + 1; rw [List.length_cons]; omega) (tn (by omega))
              refine ⟨σ', ?_, hQ, g1.tr ((g2.wid (by omega)).tr g3)⟩
              have k1 := mt q1.mp (show ¬ tk t i = 1 by omega)
              have k2 := mt q2.mp (show ¬ tk t i = 2 by omega)
              have k6 := q6.mpr c9.1
              refine ex_aload_n dX9_eRead_14 rfl rfl ?_
              refine ex_callV (a := 55) (rest := []) dX9_eRead_15 rfl qp_8_152 rfl rfl rfl rfl rfl (Nat.le_of_ble_eq_true rfl) (hO1) (Nat.le_of_ble_eq_true rfl) ?_
              show Ex qm_lay _ mX9_eRead 18 [some (.ref 55), some (.int 1), some (.int (b2i mn)), x] [] σ1 _ _
              refine ex_iload_n dX9_eRead_18 rfl rfl ?_
              refine ex_if_eq (q := 150) (q2 := 22) dX9_eRead_19 rfl rfl (fun hh => absurd hh (by decide)) (fun _ => ?_)
              refine ex_aload_n dX9_eRead_22 rfl rfl ?_
              refine ex_getI (s := 38) (x := rtk (tk t i)) dX9_eRead_23 rfl qp_8_120 rfl rfl (h38) ?_
              refine ex_iconst (x := 1) dX9_eRead_26 rfl rfl ?_
              refine ex_icmp_eq (q := 38) (q2 := 30) dX9_eRead_27 rfl rfl (fun hh => absurd hh (k1)) (fun _ => ?_)
              refine ex_aload_n dX9_eRead_30 rfl rfl ?_
              refine ex_getI (s := 38) (x := rtk (tk t i)) dX9_eRead_31 rfl qp_8_120 rfl rfl (h38) ?_
              refine ex_iconst (x := 2) dX9_eRead_34 rfl rfl ?_
              refine ex_icmp_ne (q := 75) (q2 := 38) dX9_eRead_35 rfl rfl (fun _ => ?_) (fun hh => absurd (k2) hh)
              refine ex_aload_n dX9_eRead_75 rfl rfl ?_
              refine ex_getI (s := 38) (x := rtk (tk t i)) dX9_eRead_76 rfl qp_8_120 rfl rfl (h38) ?_
              refine ex_bipush (x := 6) dX9_eRead_79 rfl rfl ?_
              refine ex_icmp_ne (q := 99) (q2 := 84) dX9_eRead_81 rfl rfl (fun hh => absurd hh (fun zz => zz k6)) (fun _ => ?_)
              refine ex_iload_n dX9_eRead_84 rfl rfl ?_
              refine ex_if_eq (q := 99) (q2 := 88) dX9_eRead_85 rfl rfl (fun hh => absurd hh (b2i_n0.mpr (c9.2))) (fun _ => ?_)
              refine ex_aload_n dX9_eRead_88 rfl rfl ?_
              refine ex_bipush (x := 13) dX9_eRead_89 rfl rfl ?_
              refine ex_callV (a := 55) (rest := []) dX9_eRead_91 rfl qp_8_156 rfl rfl rfl rfl rfl (Nat.le_of_ble_eq_true rfl) (hO2) (Nat.le_of_ble_eq_true rfl) ?_
              show Ex qm_lay _ mX9_eRead 94 [some (.ref 55), some (.int 1), some (.int (b2i mn)), x] [.int 1] σ2 _ _
              refine ex_if_ne (q := 14) (q2 := 97) dX9_eRead_94 rfl rfl (fun _ => ?_) (fun hh => absurd (by decide) hh)
              exact hE
          · rw [if_neg c9] at hr
            by_cases c45 : tk t i = 45
            · rw [if_pos c45] at hr
              obtain ⟨hX, hY⟩ := opensC hn h1 (s := 20010) (by omega) (by unfold okS; omega) rfl
              by_cases c5 : o = 5
              · rw [if_pos (show (H, o, cs).2.1 = 5 from c5)] at hr
                have er : (.inl i : tR) = r := Option.some.inj hr
                subst er
                refine ⟨σ1, ?_, h37, g1⟩
                have k45 := q45.mpr c45
                have k1 := mt q1.mp (show ¬ tk t i = 1 by omega)
                have k2 := mt q2.mp (show ¬ tk t i = 2 by omega)
                have k6 := mt q6.mp (show ¬ tk t i = 9 by omega)
                have hO2 := hX c5
                refine ex_aload_n dX9_eRead_14 rfl rfl ?_
                refine ex_callV (a := 55) (rest := []) dX9_eRead_15 rfl qp_8_152 rfl rfl rfl rfl rfl (Nat.le_of_ble_eq_true rfl) (hO1) (Nat.le_of_ble_eq_true rfl) ?_
                show Ex qm_lay _ mX9_eRead 18 [some (.ref 55), some (.int 1), some (.int (b2i mn)), x] [] σ1 _ _
                refine ex_iload_n dX9_eRead_18 rfl rfl ?_
                refine ex_if_eq (q := 150) (q2 := 22) dX9_eRead_19 rfl rfl (fun hh => absurd hh (by decide)) (fun _ => ?_)
                refine ex_aload_n dX9_eRead_22 rfl rfl ?_
                refine ex_getI (s := 38) (x := rtk (tk t i)) dX9_eRead_23 rfl qp_8_120 rfl rfl (h38) ?_
                refine ex_iconst (x := 1) dX9_eRead_26 rfl rfl ?_
                refine ex_icmp_eq (q := 38) (q2 := 30) dX9_eRead_27 rfl rfl (fun hh => absurd hh (k1)) (fun _ => ?_)
                refine ex_aload_n dX9_eRead_30 rfl rfl ?_
                refine ex_getI (s := 38) (x := rtk (tk t i)) dX9_eRead_31 rfl qp_8_120 rfl rfl (h38) ?_
                refine ex_iconst (x := 2) dX9_eRead_34 rfl rfl ?_
                refine ex_icmp_ne (q := 75) (q2 := 38) dX9_eRead_35 rfl rfl (fun _ => ?_) (fun hh => absurd (k2) hh)
                refine ex_aload_n dX9_eRead_75 rfl rfl ?_
                refine ex_getI (s := 38) (x := rtk (tk t i)) dX9_eRead_76 rfl qp_8_120 rfl rfl (h38) ?_
                refine ex_bipush (x := 6) dX9_eRead_79 rfl rfl ?_
                refine ex_icmp_ne (q := 99) (q2 := 84) dX9_eRead_81 rfl rfl (fun _ => ?_) (fun hh => absurd (k6) hh)
                refine ex_aload_n dX9_eRead_99 rfl rfl ?_
                refine ex_getI (s := 38) (x := rtk (tk t i)) dX9_eRead_100 rfl qp_8_120 rfl rfl (h38) ?_
                refine ex_bipush (x := 45) dX9_eRead_103 rfl rfl ?_
                refine ex_icmp_ne (q := 124) (q2 := 108) dX9_eRead_105 rfl rfl (fun hh => absurd hh (fun zz => zz k45)) (fun _ => ?_)
                refine ex_aload_n dX9_eRead_108 rfl rfl ?_
                refine ex_bipush (x := 19) dX9_eRead_109 rfl rfl ?_
                refine ex_callV (a := 55) (rest := []) dX9_eRead_111 rfl qp_8_156 rfl rfl rfl rfl rfl (Nat.le_of_ble_eq_true rfl) (hO2) (Nat.le_of_ble_eq_true rfl) ?_
                show Ex qm_lay _ mX9_eRead 114 [some (.ref 55), some (.int 1), some (.int (b2i mn)), x] [.int 0] σ1 _ _
                refine ex_if_ne (q := 119) (q2 := 117) dX9_eRead_114 rfl rfl (fun hh => absurd hh (by decide)) (fun _ => ?_)
                refine ex_iconst (x := 0) dX9_eRead_117 rfl rfl ?_
                exact ex_zret dX9_eRead_118 rfl (by decide) rfl rfl
              · rw [if_neg (show ¬ (H, o, cs).2.1 = 5 from c5)] at hr
                obtain ⟨σ2, hO2, h2, g2⟩ := hY c5
                obtain ⟨σ', hE, hQ, g3⟩ := ih.1 false (i + 1) _ σ2 r x hr (h2.inv (by omega)) (by show cs.length + (20010 :: H).length ≤ i + 1; rw [List.length_cons]; omega) (tn (by omega))
                refine ⟨σ', ?_, hQ, g1.tr ((g2.wid (by omega)).tr g3)⟩
                have k45 := q45.mpr c45
                have k1 := mt q1.mp (show ¬ tk t i = 1 by omega)
                have k2 := mt q2.mp (show ¬ tk t i = 2 by omega)
                have k6 := mt q6.mp (show ¬ tk t i = 9 by omega)
                refine ex_aload_n dX9_eRead_14 rfl rfl ?_
                refine ex_callV (a := 55) (rest := []) dX9_eRead_15 rfl qp_8_152 rfl rfl rfl rfl rfl (Nat.le_of_ble_eq_true rfl) (hO1) (Nat.le_of_ble_eq_true rfl) ?_
                show Ex qm_lay _ mX9_eRead 18 [some (.ref 55), some (.int 1), some (.int (b2i mn)), x] [] σ1 _ _
                refine ex_iload_n dX9_eRead_18 rfl rfl ?_
                refine ex_if_eq (q := 150) (q2 := 22) dX9_eRead_19 rfl rfl (fun hh => absurd hh (by decide)) (fun _ => ?_)
                refine ex_aload_n dX9_eRead_22 rfl rfl ?_
                refine ex_getI (s := 38) (x := rtk (tk t i)) dX9_eRead_23 rfl qp_8_120 rfl rfl (h38) ?_
                refine ex_iconst (x := 1) dX9_eRead_26 rfl rfl ?_
                refine ex_icmp_eq (q := 38) (q2 := 30) dX9_eRead_27 rfl rfl (fun hh => absurd hh (k1)) (fun _ => ?_)
                refine ex_aload_n dX9_eRead_30 rfl rfl ?_
                refine ex_getI (s := 38) (x := rtk (tk t i)) dX9_eRead_31 rfl qp_8_120 rfl rfl (h38) ?_
                refine ex_iconst (x := 2) dX9_eRead_34 rfl rfl ?_
                refine ex_icmp_ne (q := 75) (q2 := 38) dX9_eRead_35 rfl rfl (fun _ => ?_) (fun hh => absurd (k2) hh)
                refine ex_aload_n dX9_eRead_75 rfl rfl ?_
                refine ex_getI (s := 38) (x := rtk (tk t i)) dX9_eRead_76 rfl qp_8_120 rfl rfl (h38) ?_
                refine ex_bipush (x := 6) dX9_eRead_79 rfl rfl ?_
                refine ex_icmp_ne (q := 99) (q2 := 84) dX9_eRead_81 rfl rfl (fun _ => ?_) (fun hh => absurd (k6) hh)
                refine ex_aload_n dX9_eRead_99 rfl rfl ?_
                refine ex_getI (s := 38) (x := rtk (tk t i)) dX9_eRead_100 rfl qp_8_120 rfl rfl (h38) ?_
                refine ex_bipush (x := 45) dX9_eRead_103 rfl rfl ?_
                refine ex_icmp_ne (q := 124) (q2 := 108) dX9_eRead_105 rfl rfl (fun hh => absurd hh (fun zz => zz k45)) (fun _ => ?_)
                refine ex_aload_n dX9_eRead_108 rfl rfl ?_
                refine ex_bipush (x := 19) dX9_eRead_109 rfl rfl ?_
                refine ex_callV (a := 55) (rest := []) dX9_eRead_111 rfl qp_8_156 rfl rfl rfl rfl rfl (Nat.le_of_ble_eq_true rfl) (hO2) (Nat.le_of_ble_eq_true rfl) ?_
                show Ex qm_lay _ mX9_eRead 114 [some (.ref 55), some (.int 1), some (.int (b2i mn)), x] [.int 1] σ2 _ _
                refine ex_if_ne (q := 119) (q2 := 117) dX9_eRead_114 rfl rfl (fun _ => ?_) (fun hh => absurd (by decide) hh)
                refine ex_iconst (x := 0) dX9_eRead_119 rfl rfl ?_
                refine ex_istore_n (ls' := [some (.ref 55), some (.int 1), some (.int 0), x]) dX9_eRead_120 rfl (Nat.le_of_ble_eq_true rfl) rfl rfl ?_
                refine ex_goto (q := 14) dX9_eRead_121 rfl ?_
                exact hE
            · rw [if_neg c45] at hr
              by_cases c40 : tk t i = 40
              · rw [if_pos c40] at hr
                obtain ⟨hX, hY⟩ := opensC hn h1 (s := 0) (by omega) (by unfold okS; omega) rfl
                by_cases c5 : o = 5
                · rw [if_pos (show (H, o, cs).2.1 = 5 from c5)] at hr
                  have er : (.inl i : tR) = r := Option.some.inj hr
                  subst er
                  refine ⟨σ1, ?_, h37, g1⟩
                  have k40 := q40.mpr c40
                  have k1 := mt q1.mp (show ¬ tk t i = 1 by omega)
                  have k2 := mt q2.mp (show ¬ tk t i = 2 by omega)
                  have k6 := mt q6.mp (show ¬ tk t i = 9 by omega)
                  have k45 := mt q45.mp (show ¬ tk t i = 45 by omega)
                  have hO2 := hX c5
                  refine ex_aload_n dX9_eRead_14 rfl rfl ?_
                  refine ex_callV (a := 55) (rest := []) dX9_eRead_15 rfl qp_8_152 rfl rfl rfl rfl rfl (Nat.le_of_ble_eq_true rfl) (hO1) (Nat.le_of_ble_eq_true rfl) ?_
                  show Ex qm_lay _ mX9_eRead 18 [some (.ref 55), some (.int 1), some (.int (b2i mn)), x] [] σ1 _ _
                  refine ex_iload_n dX9_eRead_18 rfl rfl ?_
                  refine ex_if_eq (q := 150) (q2 := 22) dX9_eRead_19 rfl rfl (fun hh => absurd hh (by decide)) (fun _ => ?_)
                  refine ex_aload_n dX9_eRead_22 rfl rfl ?_
                  refine ex_getI (s := 38) (x := rtk (tk t i)) dX9_eRead_23 rfl qp_8_120 rfl rfl (h38) ?_
                  refine ex_iconst (x := 1) dX9_eRead_26 rfl rfl ?_
                  refine ex_icmp_eq (q := 38) (q2 := 30) dX9_eRead_27 rfl rfl (fun hh => absurd hh (k1)) (fun _ => ?_)
                  refine ex_aload_n dX9_eRead_30 rfl rfl ?_
                  refine ex_getI (s := 38) (x := rtk (tk t i)) dX9_eRead_31 rfl qp_8_120 rfl rfl (h38) ?_
                  refine ex_iconst (x := 2) dX9_eRead_34 rfl rfl ?_
                  refine ex_icmp_ne (q := 75) (q2 := 38) dX9_eRead_35 rfl rfl (fun _ => ?_) (fun hh => absurd (k2) hh)
                  refine ex_aload_n dX9_eRead_75 rfl rfl ?_
                  refine ex_getI (s := 38) (x := rtk (tk t i)) dX9_eRead_76 rfl qp_8_120 rfl rfl (h38) ?_
                  refine ex_bipush (x := 6) dX9_eRead_79 rfl rfl ?_
                  refine ex_icmp_ne (q := 99) (q2 := 84) dX9_eRead_81 rfl rfl (fun _ => ?_) (fun hh => absurd (k6) hh)
                  refine ex_aload_n dX9_eRead_99 rfl rfl ?_
                  refine ex_getI (s := 38) (x := rtk (tk t i)) dX9_eRead_100 rfl qp_8_120 rfl rfl (h38) ?_
                  refine ex_bipush (x := 45) dX9_eRead_103 rfl rfl ?_
                  refine ex_icmp_ne (q := 124) (q2 := 108) dX9_eRead_105 rfl rfl (fun _ => ?_) (fun hh => absurd (k45) hh)
                  refine ex_aload_n dX9_eRead_124 rfl rfl ?_
                  refine ex_getI (s := 38) (x := rtk (tk t i)) dX9_eRead_125 rfl qp_8_120 rfl rfl (h38) ?_
                  refine ex_bipush (x := 40) dX9_eRead_128 rfl rfl ?_
                  refine ex_icmp_ne (q := 148) (q2 := 133) dX9_eRead_130 rfl rfl (fun hh => absurd hh (fun zz => zz k40)) (fun _ => ?_)
                  refine ex_aload_n dX9_eRead_133 rfl rfl ?_
                  refine ex_iconst (x := 0) dX9_eRead_134 rfl rfl ?_
                  refine ex_callV (a := 55) (rest := []) dX9_eRead_135 rfl qp_8_156 rfl rfl rfl rfl rfl (Nat.le_of_ble_eq_true rfl) (hO2) (Nat.le_of_ble_eq_true rfl) ?_
                  show Ex qm_lay _ mX9_eRead 138 [some (.ref 55), some (.int 1), some (.int (b2i mn)), x] [.int 0] σ1 _ _
                  refine ex_if_ne (q := 143) (q2 := 141) dX9_eRead_138 rfl rfl (fun hh => absurd hh (by decide)) (fun _ => ?_)
                  refine ex_iconst (x := 0) dX9_eRead_141 rfl rfl ?_
                  exact ex_zret dX9_eRead_142 rfl (by decide) rfl rfl
                · rw [if_neg (show ¬ (H, o, cs).2.1 = 5 from c5)] at hr
                  obtain ⟨σ2, hO2, h2, g2⟩ := hY c5
                  obtain ⟨σ', hE, hQ, g3⟩ := ih.1 true (i + 1) _ σ2 r x hr (h2.inv (by omega)) (by show cs.length + (0 :: H).length ≤ i + 1; rw [List.length_cons]; omega) (tn (by omega))
                  refine ⟨σ', ?_, hQ, g1.tr ((g2.wid (by omega)).tr g3)⟩
                  have k40 := q40.mpr c40
                  have k1 := mt q1.mp (show ¬ tk t i = 1 by omega)
                  have k2 := mt q2.mp (show ¬ tk t i = 2 by omega)
                  have k6 := mt q6.mp (show ¬ tk t i = 9 by omega)
                  have k45 := mt q45.mp (show ¬ tk t i = 45 by omega)
                  refine ex_aload_n dX9_eRead_14 rfl rfl ?_
                  refine ex_callV (a := 55) (rest := []) dX9_eRead_15 rfl qp_8_152 rfl rfl rfl rfl rfl (Nat.le_of_ble_eq_true rfl) (hO1) (Nat.le_of_ble_eq_true rfl) ?_
                  show Ex qm_lay _ mX9_eRead 18 [some (.ref 55), some (.int 1), some (.int (b2i mn)), x] [] σ1 _ _
                  refine ex_iload_n dX9_eRead_18 rfl rfl ?_
                  refine ex_if_eq (q := 150) (q2 := 22) dX9_eRead_19 rfl rfl (fun hh => absurd hh (by decide)) (fun _ => ?_)
                  refine ex_aload_n dX9_eRead_22 rfl rfl ?_
                  refine ex_getI (s := 38) (x := rtk (tk t i)) dX9_eRead_23 rfl qp_8_120 rfl rfl (h38) ?_
                  refine ex_iconst (x := 1) dX9_eRead_26 rfl rfl ?_
                  refine ex_icmp_eq (q := 38) (q2 := 30) dX9_eRead_27 rfl rfl (fun hh => absurd hh (k1)) (fun _ => ?_)
                  refine ex_aload_n dX9_eRead_30 rfl rfl ?_
                  refine ex_getI (s := 38) (x := rtk (tk t i)) dX9_eRead_31 rfl qp_8_120 rfl rfl (h38) ?_
                  refine ex_iconst (x := 2) dX9_eRead_34 rfl rfl ?_
                  refine ex_icmp_ne (q := 75) (q2 := 38) dX9_eRead_35 rfl rfl (fun _ => ?_) (fun hh => absurd (k2) hh)
                  refine ex_aload_n dX9_eRead_75 rfl rfl ?_
                  refine ex_getI (s := 38) (x := rtk (tk t i)) dX9_eRead_76 rfl qp_8_120 rfl rfl (h38) ?_
                  refine ex_bipush (x := 6) dX9_eRead_79 rfl rfl ?_
                  refine ex_icmp_ne (q := 99) (q2 := 84) dX9_eRead_81 rfl rfl (fun _ => ?_) (fun hh => absurd (k6) hh)
                  refine ex_aload_n dX9_eRead_99 rfl rfl ?_
                  refine ex_getI (s := 38) (x := rtk (tk t i)) dX9_eRead_100 rfl qp_8_120 rfl rfl (h38) ?_
                  refine ex_bipush (x := 45) dX9_eRead_103 rfl rfl ?_
                  refine ex_icmp_ne (q := 124) (q2 := 108) dX9_eRead_105 rfl rfl (fun _ => ?_) (fun hh => absurd (k45) hh)
                  refine ex_aload_n dX9_eRead_124 rfl rfl ?_
                  refine ex_getI (s := 38) (x := rtk (tk t i)) dX9_eRead_125 rfl qp_8_120 rfl rfl (h38) ?_
                  refine ex_bipush (x := 40) dX9_eRead_128 rfl rfl ?_
                  refine ex_icmp_ne (q := 148) (q2 := 133) dX9_eRead_130 rfl rfl (fun hh => absurd hh (fun zz => zz k40)) (fun _ => ?_)
                  refine ex_aload_n dX9_eRead_133 rfl rfl ?_
                  refine ex_iconst (x := 0) dX9_eRead_134 rfl rfl ?_
                  refine ex_callV (a := 55) (rest := []) dX9_eRead_135 rfl qp_8_156 rfl rfl rfl rfl rfl (Nat.le_of_ble_eq_true rfl) (hO2) (Nat.le_of_ble_eq_true rfl) ?_
                  show Ex qm_lay _ mX9_eRead 138 [some (.ref 55), some (.int 1), some (.int (b2i mn)), x] [.int 1] σ2 _ _
                  refine ex_if_ne (q := 143) (q2 := 141) dX9_eRead_138 rfl rfl (fun _ => ?_) (fun hh => absurd (by decide) hh)
                  refine ex_iconst (x := 1) dX9_eRead_143 rfl rfl ?_
                  refine ex_istore_n (ls' := [some (.ref 55), some (.int 1), some (.int 1), x]) dX9_eRead_144 rfl (Nat.le_of_ble_eq_true rfl) rfl rfl ?_
                  refine ex_goto (q := 14) dX9_eRead_145 rfl ?_
                  exact hE
              · rw [if_neg c40] at hr
                have er : (.inl i : tR) = r := Option.some.inj hr
                subst er
                refine ⟨σ1, ?_, h37, g1⟩
                have k1 := mt q1.mp (show ¬ tk t i = 1 by omega)
                have k2 := mt q2.mp (show ¬ tk t i = 2 by omega)
                have k45 := mt q45.mp (show ¬ tk t i = 45 by omega)
                have k40 := mt q40.mp (show ¬ tk t i = 40 by omega)
                by_cases cc9 : tk t i = 9
                · have k6 := q6.mpr cc9
                  have hmn : mn = false := by simpa [cc9] using c9
                  refine ex_aload_n dX9_eRead_14 rfl rfl ?_
                  refine ex_callV (a := 55) (rest := []) dX9_eRead_15 rfl qp_8_152 rfl rfl rfl rfl rfl (Nat.le_of_ble_eq_true rfl) (hO1) (Nat.le_of_ble_eq_true rfl) ?_
                  show Ex qm_lay _ mX9_eRead 18 [some (.ref 55), some (.int 1), some (.int (b2i mn)), x] [] σ1 _ _
                  refine ex_iload_n dX9_eRead_18 rfl rfl ?_
                  refine ex_if_eq (q := 150) (q2 := 22) dX9_eRead_19 rfl rfl (fun hh => absurd hh (by decide)) (fun _ => ?_)
                  refine ex_aload_n dX9_eRead_22 rfl rfl ?_
                  refine ex_getI (s := 38) (x := rtk (tk t i)) dX9_eRead_23 rfl qp_8_120 rfl rfl (h38) ?_
                  refine ex_iconst (x := 1) dX9_eRead_26 rfl rfl ?_
                  refine ex_icmp_eq (q := 38) (q2 := 30) dX9_eRead_27 rfl rfl (fun hh => absurd hh (k1)) (fun _ => ?_)
                  refine ex_aload_n dX9_eRead_30 rfl rfl ?_
                  refine ex_getI (s := 38) (x := rtk (tk t i)) dX9_eRead_31 rfl qp_8_120 rfl rfl (h38) ?_
                  refine ex_iconst (x := 2) dX9_eRead_34 rfl rfl ?_
                  refine ex_icmp_ne (q := 75) (q2 := 38) dX9_eRead_35 rfl rfl (fun _ => ?_) (fun hh => absurd (k2) hh)
                  refine ex_aload_n dX9_eRead_75 rfl rfl ?_
                  refine ex_getI (s := 38) (x := rtk (tk t i)) dX9_eRead_76 rfl qp_8_120 rfl rfl (h38) ?_
                  refine ex_bipush (x := 6) dX9_eRead_79 rfl rfl ?_
                  refine ex_icmp_ne (q := 99) (q2 := 84) dX9_eRead_81 rfl rfl (fun hh => absurd hh (fun zz => zz k6)) (fun _ => ?_)
                  refine ex_iload_n dX9_eRead_84 rfl rfl ?_
                  refine ex_if_eq (q := 99) (q2 := 88) dX9_eRead_85 rfl rfl (fun _ => ?_) (fun hh => absurd (b2i_0.mpr (hmn)) hh)
                  refine ex_aload_n dX9_eRead_99 rfl rfl ?_
                  refine ex_getI (s := 38) (x := rtk (tk t i)) dX9_eRead_100 rfl qp_8_120 rfl rfl (h38) ?_
                  refine ex_bipush (x := 45) dX9_eRead_103 rfl rfl ?_
                  refine ex_icmp_ne (q := 124) (q2 := 108) dX9_eRead_105 rfl rfl (fun _ => ?_) (fun hh => absurd (k45) hh)
                  refine ex_aload_n dX9_eRead_124 rfl rfl ?_
                  refine ex_getI (s := 38) (x := rtk (tk t i)) dX9_eRead_125 rfl qp_8_120 rfl rfl (h38) ?_
                  refine ex_bipush (x := 40) dX9_eRead_128 rfl rfl ?_
                  refine ex_icmp_ne (q := 148) (q2 := 133) dX9_eRead_130 rfl rfl (fun _ => ?_) (fun hh => absurd (k40) hh)
                  refine ex_iconst (x := 0) dX9_eRead_148 rfl rfl ?_
                  exact ex_zret dX9_eRead_149 rfl (by decide) rfl rfl
                · have k6 := mt q6.mp cc9
                  refine ex_aload_n dX9_eRead_14 rfl rfl ?_
                  refine ex_callV (a := 55) (rest := []) dX9_eRead_15 rfl qp_8_152 rfl rfl rfl rfl rfl (Nat.le_of_ble_eq_true rfl) (hO1) (Nat.le_of_ble_eq_true rfl) ?_
                  show Ex qm_lay _ mX9_eRead 18 [some (.ref 55), some (.int 1), some (.int (b2i mn)), x] [] σ1 _ _
                  refine ex_iload_n dX9_eRead_18 rfl rfl ?_
                  refine ex_if_eq (q := 150) (q2 := 22) dX9_eRead_19 rfl rfl (fun hh => absurd hh (by decide)) (fun _ => ?_)
                  refine ex_aload_n dX9_eRead_22 rfl rfl ?_
                  refine ex_getI (s := 38) (x := rtk (tk t i)) dX9_eRead_23 rfl qp_8_120 rfl rfl (h38) ?_
                  refine ex_iconst (x := 1) dX9_eRead_26 rfl rfl ?_
                  refine ex_icmp_eq (q := 38) (q2 := 30) dX9_eRead_27 rfl rfl (fun hh => absurd hh (k1)) (fun _ => ?_)
                  refine ex_aload_n dX9_eRead_30 rfl rfl ?_
                  refine ex_getI (s := 38) (x := rtk (tk t i)) dX9_eRead_31 rfl qp_8_120 rfl rfl (h38) ?_
                  refine ex_iconst (x := 2) dX9_eRead_34 rfl rfl ?_
                  refine ex_icmp_ne (q := 75) (q2 := 38) dX9_eRead_35 rfl rfl (fun _ => ?_) (fun hh => absurd (k2) hh)
                  refine ex_aload_n dX9_eRead_75 rfl rfl ?_
                  refine ex_getI (s := 38) (x := rtk (tk t i)) dX9_eRead_76 rfl qp_8_120 rfl rfl (h38) ?_
                  refine ex_bipush (x := 6) dX9_eRead_79 rfl rfl ?_
                  refine ex_icmp_ne (q := 99) (q2 := 84) dX9_eRead_81 rfl rfl (fun _ => ?_) (fun hh => absurd (k6) hh)
                  refine ex_aload_n dX9_eRead_99 rfl rfl ?_
                  refine ex_getI (s := 38) (x := rtk (tk t i)) dX9_eRead_100 rfl qp_8_120 rfl rfl (h38) ?_
                  refine ex_bipush (x := 45) dX9_eRead_103 rfl rfl ?_
                  refine ex_icmp_ne (q := 124) (q2 := 108) dX9_eRead_105 rfl rfl (fun _ => ?_) (fun hh => absurd (k45) hh)
                  refine ex_aload_n dX9_eRead_124 rfl rfl ?_
                  refine ex_getI (s := 38) (x := rtk (tk t i)) dX9_eRead_125 rfl qp_8_120 rfl rfl (h38) ?_
                  refine ex_bipush (x := 40) dX9_eRead_128 rfl rfl ?_
                  refine ex_icmp_ne (q := 148) (q2 := 133) dX9_eRead_130 rfl rfl (fun _ => ?_) (fun hh => absurd (k40) hh)
                  refine ex_iconst (x := 0) dX9_eRead_148 rfl rfl ?_
                  exact ex_zret dX9_eRead_149 rfl (by decide) rfl rfl
    · obtain ⟨H, o, cs⟩ := u
      have hb2 : cs.length + H.length ≤ i := hb
      obtain ⟨σ1, hO1, h1, g1⟩ := nextM hk hI
      have hL := h1.2.2.1
      have h38 : qm_rI σ1 38 = rtk (tk t i) := hL.2.1
      have h37 : qm_rI σ1 37 = nI (tpl t i) := hL.1
      have t256 := tk_lt hk i
      obtain ⟨q1, q2, q6, q45, q40, q59, q41, -, -⟩ := rtk_k (tk t i) t256
      have tn : tk t i ≠ 0 → i + 1 ≤ 160 := fun z => by have := (tk_n0 z).2; omega
      rw [rnA] at hr
      rw [show stp t (none, i, H, o, cs) = stF t i (H, o, cs) from rfl] at hr
      unfold stF at hr
      by_cases c59 : tk t i = 59
      · rw [if_pos c59] at hr
        obtain ⟨σ2, hO2, h2, g2⟩ := unwC hn h1 (k := 1) (by decide) (by decide) (by omega)
        have hl := unw_len 1 H o cs
        have htp : ∀ s V, (unw 1 H o cs).1 = s :: V → rk s < 1 := fun s V z => unw_top z
        generalize hv : unw 1 H o cs = v at h2 hl hr htp
        obtain ⟨V, p, d⟩ := v
        have hl2 : d.length + V.length = cs.length + H.length := hl
        have g12 := g1.tr (g2.wid (i2 := 36) (by omega))
        have h237 : qm_rI σ2 37 = nI (tpl t i) := (g2.1 _ (by omega)).trans h37
        have k59 := q59.mpr c59
        cases V with
        | nil =>
          have er : (.inr (i, d) : tR) = r := Option.some.inj hr
          subst er
          refine ⟨σ2, ?_, (h2.inv (by omega)).rmn, g12⟩
          have h40 : qm_rI σ2 40 = nI 0 := h2.2.2.2.2.1
          refine ex_aload_n dX9_eRead_14 rfl rfl ?_
          refine ex_callV (a := 55) (rest := []) dX9_eRead_15 rfl qp_8_152 rfl rfl rfl rfl rfl (Nat.le_of_ble_eq_true rfl) (hO1) (Nat.le_of_ble_eq_true rfl) ?_
          show Ex qm_lay _ mX9_eRead 18 [some (.ref 55), some (.int 0), some (.int y), x] [] σ1 _ _
          refine ex_iload_n dX9_eRead_18 rfl rfl ?_
          refine ex_if_eq (q := 150) (q2 := 22) dX9_eRead_19 rfl rfl (fun _ => ?_) (fun hh => absurd (by decide) hh)
          refine ex_aload_n dX9_eRead_150 rfl rfl ?_
          refine ex_getI (s := 38) (x := rtk (tk t i)) dX9_eRead_151 rfl qp_8_120 rfl rfl (h38) ?_
          refine ex_bipush (x := 59) dX9_eRead_154 rfl rfl ?_
          refine ex_icmp_ne (q := 177) (q2 := 159) dX9_eRead_156 rfl rfl (fun hh => absurd hh (fun zz => zz k59)) (fun _ => ?_)
          refine ex_aload_n dX9_eRead_159 rfl rfl ?_
          refine ex_iconst (x := 1) dX9_eRead_160 rfl rfl ?_
          refine ex_callV (a := 55) (rest := []) dX9_eRead_161 rfl qp_8_149 rfl rfl rfl rfl rfl (Nat.le_of_ble_eq_true rfl) (hO2) (Nat.le_of_ble_eq_true rfl) ?_
          show Ex qm_lay _ mX9_eRead 164 [some (.ref 55), some (.int 0), some (.int y), x] [] σ2 _ _
          refine ex_aload_n dX9_eRead_164 rfl rfl ?_
          refine ex_getI (s := 40) (x := 0) dX9_eRead_165 rfl qp_8_133 rfl rfl (h40) ?_
          refine ex_if_ne (q := 175) (q2 := 171) dX9_eRead_168 rfl rfl (fun hh => absurd hh (by decide)) (fun _ => ?_)
          refine ex_iconst (x := 1) dX9_eRead_171 rfl rfl ?_
          refine ex_goto (q := 176) dX9_eRead_172 rfl ?_
          exact ex_zret dX9_eRead_176 rfl (by decide) rfl rfl
        | cons s V =>
          have er : (.inl i : tR) = r := Option.some.inj hr
          subst er
          rw [List.length_cons] at hl2
          refine ⟨σ2, ?_, h237, g12⟩
          have h40 : qm_rI σ2 40 = nI (V.length + 1) := h2.2.2.2.2.1
          refine ex_aload_n dX9_eRead_14 rfl rfl ?_
          refine ex_callV (a := 55) (rest := []) dX9_eRead_15 rfl qp_8_152 rfl rfl rfl rfl rfl (Nat.le_of_ble_eq_true rfl) (hO1) (Nat.le_of_ble_eq_true rfl) ?_
          show Ex qm_lay _ mX9_eRead 18 [some (.ref 55), some (.int 0), some (.int y), x] [] σ1 _ _
          refine ex_iload_n dX9_eRead_18 rfl rfl ?_
          refine ex_if_eq (q := 150) (q2 := 22) dX9_eRead_19 rfl rfl (fun _ => ?_) (fun hh => absurd (by decide) hh)
          refine ex_aload_n dX9_eRead_150 rfl rfl ?_
          refine ex_getI (s := 38) (x := rtk (tk t i)) dX9_eRead_151 rfl qp_8_120 rfl rfl (h38) ?_
          refine ex_bipush (x := 59) dX9_eRead_154 rfl rfl ?_
          refine ex_icmp_ne (q := 177) (q2 := 159) dX9_eRead_156 rfl rfl (fun hh => absurd hh (fun zz => zz k59)) (fun _ => ?_)
          refine ex_aload_n dX9_eRead_159 rfl rfl ?_
          refine ex_iconst (x := 1) dX9_eRead_160 rfl rfl ?_
          refine ex_callV (a := 55) (rest := []) dX9_eRead_161 rfl qp_8_149 rfl rfl rfl rfl rfl (Nat.le_of_ble_eq_true rfl) (hO2) (Nat.le_of_ble_eq_true rfl) ?_
          show Ex qm_lay _ mX9_eRead 164 [some (.ref 55), some (.int 0), some (.int y), x] [] σ2 _ _
          refine ex_aload_n dX9_eRead_164 rfl rfl ?_
          refine ex_getI (s := 40) (x := nI (V.length + 1)) dX9_eRead_165 rfl qp_8_133 rfl rfl (h40) ?_
          refine ex_if_ne (q := 175) (q2 := 171) dX9_eRead_168 rfl rfl (fun _ => ?_) (fun hh => absurd (fun zz => absurd ((nI_eq (a := V.length + 1) (b := 0) (by omega) (by decide)).mp zz) (by omega)) hh)
          refine ex_iconst (x := 0) dX9_eRead_175 rfl rfl ?_
          exact ex_zret dX9_eRead_176 rfl (by decide) rfl rfl
      · rw [if_neg c59] at hr
        by_cases c41 : tk t i = 41
        · rw [if_pos c41] at hr
          obtain ⟨σ2, hO2, h2, g2⟩ := unwC hn h1 (k := 1) (by decide) (by decide) (by omega)
          have hl := unw_len 1 H o cs
          have htp : ∀ s V, (unw 1 H o cs).1 = s :: V → rk s < 1 := fun s V z => unw_top z
          generalize hv : unw 1 H o cs = v at h2 hl hr htp
          obtain ⟨V, p, d⟩ := v
          have hl2 : d.length + V.length = cs.length + H.length := hl
          have g12 := g1.tr (g2.wid (i2 := 36) (by omega))
          have h237 : qm_rI σ2 37 = nI (tpl t i) := (g2.1 _ (by omega)).trans h37
          have k41 := q41.mpr c41
          have k59 := mt q59.mp (show ¬ tk t i = 59 by omega)
          cases V with
          | nil =>
            have er : (.inl i : tR) = r := Option.some.inj hr
            subst er
            refine ⟨σ2, ?_, h237, g12⟩
            have h40 : qm_rI σ2 40 = nI 0 := h2.2.2.2.2.1
            refine ex_aload_n dX9_eRead_14 rfl rfl ?_
            refine ex_callV (a := 55) (rest := []) dX9_eRead_15 rfl qp_8_152 rfl rfl rfl rfl rfl (Nat.le_of_ble_eq_true rfl) (hO1) (Nat.le_of_ble_eq_true rfl) ?_
            show Ex qm_lay _ mX9_eRead 18 [some (.ref 55), some (.int 0), some (.int y), x] [] σ1 _ _
            refine ex_iload_n dX9_eRead_18 rfl rfl ?_
            refine ex_if_eq (q := 150) (q2 := 22) dX9_eRead_19 rfl rfl (fun _ => ?_) (fun hh => absurd (by decide) hh)
            refine ex_aload_n dX9_eRead_150 rfl rfl ?_
            refine ex_getI (s := 38) (x := rtk (tk t i)) dX9_eRead_151 rfl qp_8_120 rfl rfl (h38) ?_
            refine ex_bipush (x := 59) dX9_eRead_154 rfl rfl ?_
            refine ex_icmp_ne (q := 177) (q2 := 159) dX9_eRead_156 rfl rfl (fun _ => ?_) (fun hh => absurd (k59) hh)
            refine ex_aload_n dX9_eRead_177 rfl rfl ?_
            refine ex_getI (s := 38) (x := rtk (tk t i)) dX9_eRead_178 rfl qp_8_120 rfl rfl (h38) ?_
            refine ex_bipush (x := 41) dX9_eRead_181 rfl rfl ?_
            refine ex_icmp_ne (q := 229) (q2 := 186) dX9_eRead_183 rfl rfl (fun hh => absurd hh (fun zz => zz k41)) (fun _ => ?_)
            refine ex_aload_n dX9_eRead_186 rfl rfl ?_
            refine ex_iconst (x := 1) dX9_eRead_187 rfl rfl ?_
            refine ex_callV (a := 55) (rest := []) dX9_eRead_188 rfl qp_8_149 rfl rfl rfl rfl rfl (Nat.le_of_ble_eq_true rfl) (hO2) (Nat.le_of_ble_eq_true rfl) ?_
            show Ex qm_lay _ mX9_eRead 191 [some (.ref 55), some (.int 0), some (.int y), x] [] σ2 _ _
            refine ex_aload_n dX9_eRead_191 rfl rfl ?_
            refine ex_getI (s := 40) (x := 0) dX9_eRead_192 rfl qp_8_133 rfl rfl (h40) ?_
            refine ex_if_ne (q := 200) (q2 := 198) dX9_eRead_195 rfl rfl (fun hh => absurd hh (by decide)) (fun _ => ?_)
            refine ex_iconst (x := 0) dX9_eRead_198 rfl rfl ?_
            exact ex_zret dX9_eRead_199 rfl (by decide) rfl rfl
          | cons s V =>
            rw [List.length_cons] at hl2
            have h40 : qm_rI σ2 40 = nI (V.length + 1) := h2.2.2.2.2.1
            have h41 : qm_rI σ2 41 = nI p := h2.2.2.2.2.2.2.2.1
            obtain ⟨hs, -, hH⟩ := h2.2.2.2.2.2.1
            have hs0 : s = 0 := (okS_i hs).2.2.2.2.1.mp (by have := htp s V rfl; omega)
            have ep : p = osum V + op1 s := h2.2.2.2.2.2.2.1
            have e1 : op1 s = 1 := by rw [hs0]; rfl
            have hov := osum_le hH
            have g3 : sq 40 n σ2 (qm_wI (qm_wI σ2 40 (nI V.length)) 41 (nI (p - 1))) := ((sq.rf 40 n σ2).wI (s := 40) _ (by omega)).wI (s := 41) _ (by omega)
            have hp := h2.2.2.2.pop
            rw [e1] at hp
            have h3 : CUR t n (qm_wI (qm_wI σ2 40 (nI V.length)) 41 (nI (p - 1))) i (V, p - 1, d) := h2.mk g3 hp
            obtain ⟨σ4, hO4, h4, g4⟩ := unwC hn h3 (k := 7) (by decide) (by decide) (by omega)
            have hl4 := unw_len 7 V (p - 1) d
            obtain ⟨σ', hE, hQ, g5⟩ := ih.2 y (i + 1) (unw 7 V (p - 1) d) σ4 r x hr (h4.inv (by omega)) (by omega) (tn (by omega))
            refine ⟨σ', ?_, hQ, g12.tr ((g3.wid (by omega)).tr ((g4.wid (by omega)).tr g5))⟩
            refine ex_aload_n dX9_eRead_14 rfl rfl ?_
            refine ex_callV (a := 55) (rest := []) dX9_eRead_15 rfl qp_8_152 rfl rfl rfl rfl rfl (Nat.le_of_ble_eq_true rfl) (hO1) (Nat.le_of_ble_eq_true rfl) ?_
            show Ex qm_lay _ mX9_eRead 18 [some (.ref 55), some (.int 0), some (.int y), x] [] σ1 _ _
            refine ex_iload_n dX9_eRead_18 rfl rfl ?_
            refine ex_if_eq (q := 150) (q2 := 22) dX9_eRead_19 rfl rfl (fun _ => ?_) (fun hh => absurd (by decide) hh)
            refine ex_aload_n dX9_eRead_150 rfl rfl ?_
            refine ex_getI (s := 38) (x := rtk (tk t i)) dX9_eRead_151 rfl qp_8_120 rfl rfl (h38) ?_
            refine ex_bipush (x := 59) dX9_eRead_154 rfl rfl ?_
            refine ex_icmp_ne (q := 177) (q2 := 159) dX9_eRead_156 rfl rfl (fun _ => ?_) (fun hh => absurd (k59) hh)
            refine ex_aload_n dX9_eRead_177 rfl rfl ?_
            refine ex_getI (s := 38) (x := rtk (tk t i)) dX9_eRead_178 rfl qp_8_120 rfl rfl (h38) ?_
            refine ex_bipush (x := 41) dX9_eRead_181 rfl rfl ?_
            refine ex_icmp_ne (q := 229) (q2 := 186) dX9_eRead_183 rfl rfl (fun hh => absurd hh (fun zz => zz k41)) (fun _ => ?_)
            refine ex_aload_n dX9_eRead_186 rfl rfl ?_
            refine ex_iconst (x := 1) dX9_eRead_187 rfl rfl ?_
            refine ex_callV (a := 55) (rest := []) dX9_eRead_188 rfl qp_8_149 rfl rfl rfl rfl rfl (Nat.le_of_ble_eq_true rfl) (hO2) (Nat.le_of_ble_eq_true rfl) ?_
            show Ex qm_lay _ mX9_eRead 191 [some (.ref 55), some (.int 0), some (.int y), x] [] σ2 _ _
            refine ex_aload_n dX9_eRead_191 rfl rfl ?_
            refine ex_getI (s := 40) (x := nI (V.length + 1)) dX9_eRead_192 rfl qp_8_133 rfl rfl (h40) ?_
            refine ex_if_ne (q := 200) (q2 := 198) dX9_eRead_195 rfl rfl (fun _ => ?_) (fun hh => absurd (fun zz => absurd ((nI_eq (a := V.length + 1) (b := 0) (by omega) (by decide)).mp zz) (by omega)) hh)
            refine ex_aload_n dX9_eRead_200 rfl rfl ?_
            refine ex_dup dX9_eRead_201 rfl rfl ?_
            refine ex_getI (s := 40) (x := nI (V.length + 1)) dX9_eRead_202 rfl qp_8_133 rfl rfl (h40) ?_
            refine ex_iconst (x := 1) dX9_eRead_205 rfl rfl ?_
            refine ex_isub (z := nI V.length) dX9_eRead_206 rfl (pk_sub (a := V.length + 1) (b := 1) (by omega)) ?_
            refine ex_put (σ' := qm_wI σ2 40 (nI V.length)) dX9_eRead_207 rfl qp_8_133 rfl rfl (Or.inl rfl) rfl ?_
            refine ex_aload_n dX9_eRead_210 rfl rfl ?_
            refine ex_dup dX9_eRead_211 rfl rfl ?_
            refine ex_getI (s := 41) (x := nI p) dX9_eRead_212 rfl qp_8_139 rfl rfl (h41) ?_
            refine ex_iconst (x := 1) dX9_eRead_215 rfl rfl ?_
            refine ex_isub (z := nI (p - 1)) dX9_eRead_216 rfl (pk_sub (b := 1) (by omega)) ?_
            refine ex_put (σ' := qm_wI (qm_wI σ2 40 (nI V.length)) 41 (nI (p - 1))) dX9_eRead_217 rfl qp_8_139 rfl rfl (Or.inl rfl) rfl ?_
            refine ex_aload_n dX9_eRead_220 rfl rfl ?_
            refine ex_bipush (x := 7) dX9_eRead_221 rfl rfl ?_
            refine ex_callV (a := 55) (rest := []) dX9_eRead_223 rfl qp_8_149 rfl rfl rfl rfl rfl (Nat.le_of_ble_eq_true rfl) (hO4) (Nat.le_of_ble_eq_true rfl) ?_
            show Ex qm_lay _ mX9_eRead 226 [some (.ref 55), some (.int 0), some (.int y), x] [] σ4 _ _
            refine ex_goto (q := 14) dX9_eRead_226 rfl ?_
            exact hE
        · rw [if_neg c41] at hr
          have k59 := mt q59.mp (show ¬ tk t i = 59 by omega)
          have k41 := mt q41.mp (show ¬ tk t i = 41 by omega)
          have hS := k_signOf t256 h38
          by_cases co : isop (tk t i) = true
          · rw [if_pos co] at hr hS
            obtain ⟨oS, o0, -, o12, oU, oU6, oR⟩ := okS_op co
            have hm20 := (okS_i oS).1
            obtain ⟨σ2, hO2, hor, e37, g2⟩ := betC hn h1 co (by omega)
            have hl := unw_len (ru (tk t i)) H o cs
            have g12 := g1.tr (g2.wid (i2 := 36) (by omega))
            have er0 : stO t i (unw (ru (tk t i)) H o cs) = if rk (20000 + tk t i) = 4 ∧ top4 (unw (ru (tk t i)) H o cs).1 = true then .inr (.inl i) else .inl (some (decide (rk (20000 + tk t i) ≤ 2)), i + 1, (20000 + tk t i) :: (unw (ru (tk t i)) H o cs).1, (unw (ru (tk t i)) H o cs).2.1, (unw (ru (tk t i)) H o cs).2.2) := rfl
            have hr : (match stO t i (unw (ru (tk t i)) H o cs) with | .inl b => rnA t f b | .inr e => some e) = some r := hr
            rw [er0] at hr
            by_cases cf : rk (20000 + tk t i) = 4 ∧ top4 (unw (ru (tk t i)) H o cs).1 = true
            · rw [if_pos cf] at hr
              have er : (.inl i : tR) = r := Option.some.inj hr
              subst er
              rw [decide_eq_true cf.1, cf.2] at hO2
              refine ⟨σ2, ?_, e37.trans h37, g12⟩
              refine ex_aload_n dX9_eRead_14 rfl rfl ?_
              refine ex_callV (a := 55) (rest := []) dX9_eRead_15 rfl qp_8_152 rfl rfl rfl rfl rfl (Nat.le_of_ble_eq_true rfl) (hO1) (Nat.le_of_ble_eq_true rfl) ?_
              show Ex qm_lay _ mX9_eRead 18 [some (.ref 55), some (.int 0), some (.int y), x] [] σ1 _ _
              refine ex_iload_n dX9_eRead_18 rfl rfl ?_
              refine ex_if_eq (q := 150) (q2 := 22) dX9_eRead_19 rfl rfl (fun _ => ?_) (fun hh => absurd (by decide) hh)
              refine ex_aload_n dX9_eRead_150 rfl rfl ?_
              refine ex_getI (s := 38) (x := rtk (tk t i)) dX9_eRead_151 rfl qp_8_120 rfl rfl (h38) ?_
              refine ex_bipush (x := 59) dX9_eRead_154 rfl rfl ?_
              refine ex_icmp_ne (q := 177) (q2 := 159) dX9_eRead_156 rfl rfl (fun _ => ?_) (fun hh => absurd (k59) hh)
              refine ex_aload_n dX9_eRead_177 rfl rfl ?_
              refine ex_getI (s := 38) (x := rtk (tk t i)) dX9_eRead_178 rfl qp_8_120 rfl rfl (h38) ?_
              refine ex_bipush (x := 41) dX9_eRead_181 rfl rfl ?_
              refine ex_icmp_ne (q := 229) (q2 := 186) dX9_eRead_183 rfl rfl (fun _ => ?_) (fun hh => absurd (k41) hh)
              refine ex_aload_n dX9_eRead_229 rfl rfl ?_
              refine ex_callV (a := 55) (rest := []) dX9_eRead_230 rfl qp_8_159 rfl rfl rfl rfl rfl (Nat.le_of_ble_eq_true rfl) (hS) (Nat.le_of_ble_eq_true rfl) ?_
              show Ex qm_lay _ mX9_eRead 233 [some (.ref 55), some (.int 0), some (.int y), x] [.int (nI (hm (20000 + tk t i)))] σ1 _ _
              refine ex_istore_n (ls' := [some (.ref 55), some (.int 0), some (.int y), some (.int (nI (hm (20000 + tk t i))))]) dX9_eRead_233 rfl (Nat.le_of_ble_eq_true rfl) rfl rfl ?_
              refine ex_iload_n dX9_eRead_234 rfl rfl ?_
              refine ex_iconst (x := (-1)) dX9_eRead_235 rfl rfl ?_
              refine ex_icmp_eq (q := 247) (q2 := 239) dX9_eRead_236 rfl rfl (fun hh => absurd hh (hm_n1 hm20)) (fun _ => ?_)
              refine ex_aload_n dX9_eRead_239 rfl rfl ?_
              refine ex_iload_n dX9_eRead_240 rfl rfl ?_
              refine ex_callV (a := 55) (rest := []) dX9_eRead_241 rfl qp_8_162 rfl rfl rfl rfl rfl (Nat.le_of_ble_eq_true rfl) (hO2) (Nat.le_of_ble_eq_true rfl) ?_
              show Ex qm_lay _ mX9_eRead 244 [some (.ref 55), some (.int 0), some (.int y), some (.int (nI (hm (20000 + tk t i))))] [.int 0] σ2 _ _
              refine ex_if_ne (q := 249) (q2 := 247) dX9_eRead_244 rfl rfl (fun hh => absurd hh (by decide)) (fun _ => ?_)
              refine ex_iconst (x := 0) dX9_eRead_247 rfl rfl ?_
              exact ex_zret dX9_eRead_248 rfl (by decide) rfl rfl
            · rw [if_neg cf] at hr
              have h2 := hor.resolve_left cf
              have e1 : (!(decide (rk (20000 + tk t i) = 4) && top4 (unw (ru (tk t i)) H o cs).1)) = true := by
                cases hq : top4 (unw (ru (tk t i)) H o cs).1 with
                | false => rw [Bool.and_false]; rfl
                | true => rw [decide_eq_false (fun z => cf ⟨z, hq⟩)]; rfl
              rw [e1] at hO2
              obtain ⟨σ', hE, hQ, g3⟩ := ih.1 _ (i + 1) _ σ2 r (some (.int (nI (hm (20000 + tk t i))))) hr (h2.inv (by intro z; rw [z] at co; cases co)) (by show (unw (ru (tk t i)) H o cs).2.2.length + ((20000 + tk t i) :: (unw (ru (tk t i)) H o cs).1).length ≤ i + 1; rw [List.length_cons]; omega) (tn (by intro z; rw [z] at co; cases co))
              refine ⟨σ', ?_, hQ, g12.tr g3⟩
              rw [o12] at hE
              by_cases c12 : hm (20000 + tk t i) ≤ 12
              · rw [decide_eq_true c12] at hE
                refine ex_aload_n dX9_eRead_14 rfl rfl ?_
                refine ex_callV (a := 55) (rest := []) dX9_eRead_15 rfl qp_8_152 rfl rfl rfl rfl rfl (Nat.le_of_ble_eq_true rfl) (hO1) (Nat.le_of_ble_eq_true rfl) ?_
                show Ex qm_lay _ mX9_eRead 18 [some (.ref 55), some (.int 0), some (.int y), x] [] σ1 _ _
                refine ex_iload_n dX9_eRead_18 rfl rfl ?_
                refine ex_if_eq (q := 150) (q2 := 22) dX9_eRead_19 rfl rfl (fun _ => ?_) (fun hh => absurd (by decide) hh)
                refine ex_aload_n dX9_eRead_150 rfl rfl ?_
                refine ex_getI (s := 38) (x := rtk (tk t i)) dX9_eRead_151 rfl qp_8_120 rfl rfl (h38) ?_
                refine ex_bipush (x := 59) dX9_eRead_154 rfl rfl ?_
                refine ex_icmp_ne (q := 177) (q2 := 159) dX9_eRead_156 rfl rfl (fun _ => ?_) (fun hh => absurd (k59) hh)
                refine ex_aload_n dX9_eRead_177 rfl rfl ?_
                refine ex_getI (s := 38) (x := rtk (tk t i)) dX9_eRead_178 rfl qp_8_120 rfl rfl (h38) ?_
                refine ex_bipush (x := 41) dX9_eRead_181 rfl rfl ?_
                refine ex_icmp_ne (q := 229) (q2 := 186) dX9_eRead_183 rfl rfl (fun _ => ?_) (fun hh => absurd (k41) hh)
                refine ex_aload_n dX9_eRead_229 rfl rfl ?_
                refine ex_callV (a := 55) (rest := []) dX9_eRead_230 rfl qp_8_159 rfl rfl rfl rfl rfl (Nat.le_of_ble_eq_true rfl) (hS) (Nat.le_of_ble_eq_true rfl) ?_
                show Ex qm_lay _ mX9_eRead 233 [some (.ref 55), some (.int 0), some (.int y), x] [.int (nI (hm (20000 + tk t i)))] σ1 _ _
                refine ex_istore_n (ls' := [some (.ref 55), some (.int 0), some (.int y), some (.int (nI (hm (20000 + tk t i))))]) dX9_eRead_233 rfl (Nat.le_of_ble_eq_true rfl) rfl rfl ?_
                refine ex_iload_n dX9_eRead_234 rfl rfl ?_
                refine ex_iconst (x := (-1)) dX9_eRead_235 rfl rfl ?_
                refine ex_icmp_eq (q := 247) (q2 := 239) dX9_eRead_236 rfl rfl (fun hh => absurd hh (hm_n1 hm20)) (fun _ => ?_)
                refine ex_aload_n dX9_eRead_239 rfl rfl ?_
                refine ex_iload_n dX9_eRead_240 rfl rfl ?_
                refine ex_callV (a := 55) (rest := []) dX9_eRead_241 rfl qp_8_162 rfl rfl rfl rfl rfl (Nat.le_of_ble_eq_true rfl) (hO2) (Nat.le_of_ble_eq_true rfl) ?_
                show Ex qm_lay _ mX9_eRead 244 [some (.ref 55), some (.int 0), some (.int y), some (.int (nI (hm (20000 + tk t i))))] [.int 1] σ2 _ _
                refine ex_if_ne (q := 249) (q2 := 247) dX9_eRead_244 rfl rfl (fun _ => ?_) (fun hh => absurd (by decide) hh)
                refine ex_iconst (x := 1) dX9_eRead_249 rfl rfl ?_
                refine ex_istore_n (ls' := [some (.ref 55), some (.int 1), some (.int y), some (.int (nI (hm (20000 + tk t i))))]) dX9_eRead_250 rfl (Nat.le_of_ble_eq_true rfl) rfl rfl ?_
                refine ex_iload_n dX9_eRead_251 rfl rfl ?_
                refine ex_bipush (x := 12) dX9_eRead_252 rfl rfl ?_
                refine ex_icmp_gt (q := 261) (q2 := 257) dX9_eRead_254 rfl rfl (fun hh => absurd hh (nI_nlt (a := 12) (b := (hm (20000 + tk t i))) (by omega) (by omega))) (fun _ => ?_)
                refine ex_iconst (x := 1) dX9_eRead_257 rfl rfl ?_
                refine ex_goto (q := 262) dX9_eRead_258 rfl ?_
                refine ex_istore_n (ls' := [some (.ref 55), some (.int 1), some (.int 1), some (.int (nI (hm (20000 + tk t i))))]) dX9_eRead_262 rfl (Nat.le_of_ble_eq_true rfl) rfl rfl ?_
                refine ex_goto (q := 14) dX9_eRead_263 rfl ?_
                exact hE
              · rw [decide_eq_false c12] at hE
                refine ex_aload_n dX9_eRead_14 rfl rfl ?_
                refine ex_callV (a := 55) (rest := []) dX9_eRead_15 rfl qp_8_152 rfl rfl rfl rfl rfl (Nat.le_of_ble_eq_true rfl) (hO1) (Nat.le_of_ble_eq_true rfl) ?_
                show Ex qm_lay _ mX9_eRead 18 [some (.ref 55), some (.int 0), some (.int y), x] [] σ1 _ _
                refine ex_iload_n dX9_eRead_18 rfl rfl ?_
                refine ex_if_eq (q := 150) (q2 := 22) dX9_eRead_19 rfl rfl (fun _ => ?_) (fun hh => absurd (by decide) hh)
                refine ex_aload_n dX9_eRead_150 rfl rfl ?_
                refine ex_getI (s := 38) (x := rtk (tk t i)) dX9_eRead_151 rfl qp_8_120 rfl rfl (h38) ?_
                refine ex_bipush (x := 59) dX9_eRead_154 rfl rfl ?_
                refine ex_icmp_ne (q := 177) (q2 := 159) dX9_eRead_156 rfl rfl (fun _ => ?_) (fun hh => absurd (k59) hh)
                refine ex_aload_n dX9_eRead_177 rfl rfl ?_
                refine ex_getI (s := 38) (x := rtk (tk t i)) dX9_eRead_178 rfl qp_8_120 rfl rfl (h38) ?_
                refine ex_bipush (x := 41) dX9_eRead_181 rfl rfl ?_
                refine ex_icmp_ne (q := 229) (q2 := 186) dX9_eRead_183 rfl rfl (fun _ => ?_) (fun hh => absurd (k41) hh)
                refine ex_aload_n dX9_eRead_229 rfl rfl ?_
                refine ex_callV (a := 55) (rest := []) dX9_eRead_230 rfl qp_8_159 rfl rfl rfl rfl rfl (Nat.le_of_ble_eq_true rfl) (hS) (Nat.le_of_ble_eq_true rfl) ?_
                show Ex qm_lay _ mX9_eRead 233 [some (.ref 55), some (.int 0), some (.int y), x] [.int (nI (hm (20000 + tk t i)))] σ1 _ _
                refine ex_istore_n (ls' := [some (.ref 55), some (.int 0), some (.int y), some (.int (nI (hm (20000 + tk t i))))]) dX9_eRead_233 rfl (Nat.le_of_ble_eq_true rfl) rfl rfl ?_
                refine ex_iload_n dX9_eRead_234 rfl rfl ?_
                refine ex_iconst (x := (-1)) dX9_eRead_235 rfl rfl ?_
                refine ex_icmp_eq (q := 247) (q2 := 239) dX9_eRead_236 rfl rfl (fun hh => absurd hh (hm_n1 hm20)) (fun _ => ?_)
                refine ex_aload_n dX9_eRead_239 rfl rfl ?_
                refine ex_iload_n dX9_eRead_240 rfl rfl ?_
                refine ex_callV (a := 55) (rest := []) dX9_eRead_241 rfl qp_8_162 rfl rfl rfl rfl rfl (Nat.le_of_ble_eq_true rfl) (hO2) (Nat.le_of_ble_eq_true rfl) ?_
                show Ex qm_lay _ mX9_eRead 244 [some (.ref 55), some (.int 0), some (.int y), some (.int (nI (hm (20000 + tk t i))))] [.int 1] σ2 _ _
                refine ex_if_ne (q := 249) (q2 := 247) dX9_eRead_244 rfl rfl (fun _ => ?_) (fun hh => absurd (by decide) hh)
                refine ex_iconst (x := 1) dX9_eRead_249 rfl rfl ?_
                refine ex_istore_n (ls' := [some (.ref 55), some (.int 1), some (.int y), some (.int (nI (hm (20000 + tk t i))))]) dX9_eRead_250 rfl (Nat.le_of_ble_eq_true rfl) rfl rfl ?_
                refine ex_iload_n dX9_eRead_251 rfl rfl ?_
                refine ex_bipush (x := 12) dX9_eRead_252 rfl rfl ?_
                refine ex_icmp_gt (q := 261) (q2 := 257) dX9_eRead_254 rfl rfl (fun _ => ?_) (fun hh => absurd (nI_lt (a := 12) (b := (hm (20000 + tk t i))) (by omega) (by omega)) hh)
                refine ex_iconst (x := 0) dX9_eRead_261 rfl rfl ?_
                refine ex_istore_n (ls' := [some (.ref 55), some (.int 1), some (.int 0), some (.int (nI (hm (20000 + tk t i))))]) dX9_eRead_262 rfl (Nat.le_of_ble_eq_true rfl) rfl rfl ?_
                refine ex_goto (q := 14) dX9_eRead_263 rfl ?_
                exact hE
          · rw [if_neg co] at hr hS
            have er : (.inl i : tR) = r := Option.some.inj hr
            subst er
            refine ⟨σ1, ?_, h37, g1⟩
            refine ex_aload_n dX9_eRead_14 rfl rfl ?_
            refine ex_callV (a := 55) (rest := []) dX9_eRead_15 rfl qp_8_152 rfl rfl rfl rfl rfl (Nat.le_of_ble_eq_true rfl) (hO1) (Nat.le_of_ble_eq_true rfl) ?_
            show Ex qm_lay _ mX9_eRead 18 [some (.ref 55), some (.int 0), some (.int y), x] [] σ1 _ _
            refine ex_iload_n dX9_eRead_18 rfl rfl ?_
            refine ex_if_eq (q := 150) (q2 := 22) dX9_eRead_19 rfl rfl (fun _ => ?_) (fun hh => absurd (by decide) hh)
            refine ex_aload_n dX9_eRead_150 rfl rfl ?_
            refine ex_getI (s := 38) (x := rtk (tk t i)) dX9_eRead_151 rfl qp_8_120 rfl rfl (h38) ?_
            refine ex_bipush (x := 59) dX9_eRead_154 rfl rfl ?_
            refine ex_icmp_ne (q := 177) (q2 := 159) dX9_eRead_156 rfl rfl (fun _ => ?_) (fun hh => absurd (k59) hh)
            refine ex_aload_n dX9_eRead_177 rfl rfl ?_
            refine ex_getI (s := 38) (x := rtk (tk t i)) dX9_eRead_178 rfl qp_8_120 rfl rfl (h38) ?_
            refine ex_bipush (x := 41) dX9_eRead_181 rfl rfl ?_
            refine ex_icmp_ne (q := 229) (q2 := 186) dX9_eRead_183 rfl rfl (fun _ => ?_) (fun hh => absurd (k41) hh)
            refine ex_aload_n dX9_eRead_229 rfl rfl ?_
            refine ex_callV (a := 55) (rest := []) dX9_eRead_230 rfl qp_8_159 rfl rfl rfl rfl rfl (Nat.le_of_ble_eq_true rfl) (hS) (Nat.le_of_ble_eq_true rfl) ?_
            show Ex qm_lay _ mX9_eRead 233 [some (.ref 55), some (.int 0), some (.int y), x] [.int (-1)] σ1 _ _
            refine ex_istore_n (ls' := [some (.ref 55), some (.int 0), some (.int y), some (.int (-1))]) dX9_eRead_233 rfl (Nat.le_of_ble_eq_true rfl) rfl rfl ?_
            refine ex_iload_n dX9_eRead_234 rfl rfl ?_
            refine ex_iconst (x := (-1)) dX9_eRead_235 rfl rfl ?_
            refine ex_icmp_eq (q := 247) (q2 := 239) dX9_eRead_236 rfl rfl (fun _ => ?_) (fun hh => absurd (by decide) hh)
            refine ex_iconst (x := 0) dX9_eRead_247 rfl rfl ?_
            exact ex_zret dX9_eRead_248 rfl (by decide) rfl rfl

set_option maxRecDepth 8000 in
set_option maxHeartbeats 2000000 in
theorem k_eRead {t : gt_T} (hk : gt_ok t) {n : Nat} (hn : n < 6) {σ : qm_St} {i : Nat} {cs : List Nat} (h : RMN t n σ i cs) (hb : cs.length ≤ i) (hi : i ≤ 160) : ∃ σ', Ok qm_lay 3 mX9_eRead [.ref 55] σ (some (.int (b2i (okv (pE t i cs))))) σ' ∧ PPM t n σ' (pE t i cs) ∧ sq 36 n σ σ' := by
  obtain ⟨f, hf⟩ := pE_Ev (t := t) hk.1 i cs
  have g0 : sq 36 n σ (qm_wI (qm_wI σ 40 0) 41 0) := ((sq.rf 36 n σ).wI (s := 40) _ (by omega)).wI (s := 41) _ (by omega)
  have hI : INV t n (qm_wI (qm_wI σ 40 0) 41 0) i ([], 0, cs) := ⟨h.1.sq g0 (by omega), h.2.1.sq g0, h.2.2.1, h.2.2.2.1, rfl, trivial, rfl, rfl, h.2.2.2.2.1, h.2.2.2.2.2⟩
  obtain ⟨σ', hE, hQ, g1⟩ := (l_eRead hk hn f).1 true i ([], 0, cs) (qm_wI (qm_wI σ 40 0) 41 0) _ none hf hI hb hi
  refine ⟨σ', ?_, hQ, g0.tr g1⟩
  refine Ok.of (ls := [some (.ref 55), none, none, none]) (Nat.le_of_ble_eq_true rfl) rfl ?_
  refine ex_aload_n dX9_eRead_0 rfl rfl ?_
  refine ex_iconst (x := 0) dX9_eRead_1 rfl rfl ?_
  refine ex_put (σ' := qm_wI σ 40 0) dX9_eRead_2 rfl qp_8_133 rfl rfl (Or.inl rfl) rfl ?_
  refine ex_aload_n dX9_eRead_5 rfl rfl ?_
  refine ex_iconst (x := 0) dX9_eRead_6 rfl rfl ?_
  refine ex_put (σ' := qm_wI (qm_wI σ 40 0) 41 0) dX9_eRead_7 rfl qp_8_139 rfl rfl (Or.inl rfl) rfl ?_
  refine ex_iconst (x := 1) dX9_eRead_10 rfl rfl ?_
  refine ex_istore_n (ls' := [some (.ref 55), some (.int 1), none, none]) dX9_eRead_11 rfl (Nat.le_of_ble_eq_true rfl) rfl rfl ?_
  refine ex_iconst (x := 1) dX9_eRead_12 rfl rfl ?_
  refine ex_istore_n (ls' := [some (.ref 55), some (.int 1), some (.int 1), none]) dX9_eRead_13 rfl (Nat.le_of_ble_eq_true rfl) rfl rfl ?_
  exact hE

