theorem c_least {lay : List qm_LE} (σ : qm_St) (x : Int32) : Ok lay 1 mX7_least [.int x] σ (some (.int (tn_lst x))) σ := by
  refine Ok.of (ls := [some (.int x)]) (Nat.le_of_ble_eq_true rfl) rfl ?_
  refine ex_bipush (x := 11) dX7_least_0 rfl rfl ?_
  refine ex_iload_n dX7_least_2 rfl rfl ?_
  refine ex_iconst (x := (-1)) dX7_least_3 rfl rfl ?_
  refine ex_ixor (z := x ^^^ ((-1))) dX7_least_4 rfl (rfl) ?_
  refine ex_callS (rest := [.int 11]) dX7_least_5 rfl qp_6_81 rfl rfl rfl (Nat.le_of_ble_eq_true rfl) (c_tz _ _) (Nat.le_of_ble_eq_true rfl) ?_
  show Ex lay _ mX7_least 8 [some (.int x)] [.int (jk_tz (x ^^^ ((-1)))), .int 11] σ _ _
  refine ex_min (z := if jk_tz (x ^^^ ((-1))) < 11 then jk_tz (x ^^^ ((-1))) else 11) dX7_least_8 rfl qp_6_84 (Nat.le_of_ble_eq_true rfl) (rfl) ?_
  exact ex_iret dX7_least_11 rfl rfl rfl

theorem c_aboveGreatest {lay : List qm_LE} (σ : qm_St) (x : Int32) : Ok lay 1 mX7_aboveGreatest [.int x] σ (some (.int (tn_abv x))) σ := by
  refine Ok.of (ls := [some (.int x)]) (Nat.le_of_ble_eq_true rfl) rfl ?_
  refine ex_bipush (x := 11) dX7_aboveGreatest_0 rfl rfl ?_
  refine ex_bipush (x := 32) dX7_aboveGreatest_2 rfl rfl ?_
  refine ex_iload_n dX7_aboveGreatest_4 rfl rfl ?_
  refine ex_callS (rest := [.int 32, .int 11]) dX7_aboveGreatest_5 rfl qp_6_90 rfl rfl rfl (Nat.le_of_ble_eq_true rfl) (c_lz _ _) (Nat.le_of_ble_eq_true rfl) ?_
  show Ex lay _ mX7_aboveGreatest 8 [some (.int x)] [.int (jk_lz x), .int 32, .int 11] σ _ _
  refine ex_isub (z := 32 - (jk_lz x)) dX7_aboveGreatest_8 rfl (rfl) ?_
  refine ex_min (z := if 32 - (jk_lz x) < 11 then 32 - (jk_lz x) else 11) dX7_aboveGreatest_9 rfl qp_6_84 (Nat.le_of_ble_eq_true rfl) (rfl) ?_
  exact ex_iret dX7_aboveGreatest_12 rfl rfl rfl

theorem c_colourByKind {lay : List qm_LE} (σ : qm_St) (x : Int32) {k m : Nat} (hk : k ≤ 5) (hm : m < 2 ^ 31) : Ok lay 2 mX7_colourByKind [.int (nI k), .int (nI m), .int x] σ (some (.int (tn_kd k m x))) σ := by
  refine Ok.of (ls := [some (.int (nI k)), some (.int (nI m)), some (.int x)]) (Nat.le_of_ble_eq_true rfl) rfl ?_
  refine ex_iload_n dX7_colourByKind_0 rfl rfl ?_
  have hk6 : k = 0 ∨ k = 1 ∨ k = 2 ∨ k = 3 ∨ k = 4 ∨ k = 5 := by omega
  rcases hk6 with rfl | rfl | rfl | rfl | rfl | rfl
  · refine ex_tswO (q := 83) dX7_colourByKind_1 (by decide) rfl ?_
    refine ex_iload_n dX7_colourByKind_83 rfl rfl ?_
    refine ex_callS (rest := []) dX7_colourByKind_84 rfl qp_6_75 rfl rfl rfl (Nat.le_of_ble_eq_true rfl) (c_least _ x) (Nat.le_of_ble_eq_true rfl) ?_
    show Ex lay _ mX7_colourByKind 87 [some (.int 0), some (.int (nI m)), some (.int x)] [.int (tn_lst x)] σ _ _
    exact ex_iret dX7_colourByKind_87 rfl (by simp [tn_kd]) rfl
  · refine ex_tswI (q := 36) (off := 35) dX7_colourByKind_1 (by decide) rfl rfl ?_
    refine ex_iload_n dX7_colourByKind_36 rfl rfl ?_
    refine ex_iconst (x := 1) dX7_colourByKind_37 rfl rfl ?_
    refine ex_ior (z := x ||| 1) dX7_colourByKind_38 rfl (rfl) ?_
    refine ex_callS (rest := []) dX7_colourByKind_39 rfl qp_6_75 rfl rfl rfl (Nat.le_of_ble_eq_true rfl) (c_least _ (x ||| 1)) (Nat.le_of_ble_eq_true rfl) ?_
    show Ex lay _ mX7_colourByKind 42 [some (.int 1), some (.int (nI m)), some (.int x)] [.int (tn_lst (x ||| 1))] σ _ _
    exact ex_iret dX7_colourByKind_42 rfl (by simp [tn_kd]) rfl
  · refine ex_tswI (q := 43) (off := 42) dX7_colourByKind_1 (by decide) rfl rfl ?_
    refine ex_iload_n dX7_colourByKind_43 rfl rfl ?_
    refine ex_iconst (x := 1) dX7_colourByKind_44 rfl rfl ?_
    refine ex_iload_n dX7_colourByKind_45 rfl rfl ?_
    refine ex_iconst (x := 5) dX7_colourByKind_46 rfl rfl ?_
    refine ex_irem (z := nI (m % 5)) dX7_colourByKind_47 rfl (by decide) (pk_rem (by omega) (by decide) (by decide)) ?_
    refine ex_ishl (z := 1 <<< ((nI (m % 5)) &&& 31)) dX7_colourByKind_48 rfl (rfl) ?_
    refine ex_ior (z := x ||| (1 <<< ((nI (m % 5)) &&& 31))) dX7_colourByKind_49 rfl (rfl) ?_
    refine ex_callS (rest := []) dX7_colourByKind_50 rfl qp_6_75 rfl rfl rfl (Nat.le_of_ble_eq_true rfl) (c_least _ (x ||| (1 <<< ((nI (m % 5)) &&& 31)))) (Nat.le_of_ble_eq_true rfl) ?_
    show Ex lay _ mX7_colourByKind 53 [some (.int 2), some (.int (nI m)), some (.int x)] [.int (tn_lst (x ||| (1 <<< ((nI (m % 5)) &&& 31))))] σ _ _
    exact ex_iret dX7_colourByKind_53 rfl (by simp [tn_kd]) rfl
  · refine ex_tswI (q := 54) (off := 53) dX7_colourByKind_1 (by decide) rfl rfl ?_
    refine ex_iload_n dX7_colourByKind_54 rfl rfl ?_
    refine ex_callS (rest := []) dX7_colourByKind_55 rfl qp_6_57 rfl rfl rfl (Nat.le_of_ble_eq_true rfl) (c_bitCount _ x) (Nat.le_of_ble_eq_true rfl) ?_
    show Ex lay _ mX7_colourByKind 58 [some (.int 3), some (.int (nI m)), some (.int x)] [.int (jk_bc x)] σ _ _
    refine ex_iload_n dX7_colourByKind_58 rfl rfl ?_
    refine ex_iconst (x := 4) dX7_colourByKind_59 rfl rfl ?_
    refine ex_irem (z := nI (m % 4)) dX7_colourByKind_60 rfl (by decide) (pk_rem (by omega) (by decide) (by decide)) ?_
    refine ex_icmp_le (q := 71) (q2 := 64) dX7_colourByKind_61 rfl rfl (fun h61 => ?_) (fun h61 => ?_)
    · refine ex_iload_n dX7_colourByKind_71 rfl rfl ?_
      refine ex_iconst (x := 1) dX7_colourByKind_72 rfl rfl ?_
      refine ex_ior (z := x ||| 1) dX7_colourByKind_73 rfl (rfl) ?_
      refine ex_callS (rest := []) dX7_colourByKind_74 rfl qp_6_75 rfl rfl rfl (Nat.le_of_ble_eq_true rfl) (c_least _ (x ||| 1)) (Nat.le_of_ble_eq_true rfl) ?_
      show Ex lay _ mX7_colourByKind 77 [some (.int 3), some (.int (nI m)), some (.int x)] [.int (tn_lst (x ||| 1))] σ _ _
      exact ex_iret dX7_colourByKind_77 rfl (by first | (simp only [tn_kd]; rw [if_neg (by decide), if_neg (by decide), if_pos trivial, if_pos (Int32.not_le.mp h61)]) | (simp only [tn_kd]; rw [if_neg (by decide), if_neg (by decide), if_pos trivial, if_neg (Int32.not_lt.mpr h61)])) rfl
    · refine ex_iload_n dX7_colourByKind_64 rfl rfl ?_
      refine ex_callS (rest := []) dX7_colourByKind_65 rfl qp_6_78 rfl rfl rfl (Nat.le_of_ble_eq_true rfl) (c_aboveGreatest _ x) (Nat.le_of_ble_eq_true rfl) ?_
      show Ex lay _ mX7_colourByKind 68 [some (.int 3), some (.int (nI m)), some (.int x)] [.int (tn_abv x)] σ _ _
      refine ex_goto (q := 77) dX7_colourByKind_68 rfl ?_
      exact ex_iret dX7_colourByKind_77 rfl (by first | (simp only [tn_kd]; rw [if_neg (by decide), if_neg (by decide), if_pos trivial, if_pos (Int32.not_le.mp h61)]) | (simp only [tn_kd]; rw [if_neg (by decide), if_neg (by decide), if_pos trivial, if_neg (Int32.not_lt.mpr h61)])) rfl
  · refine ex_tswI (q := 43) (off := 42) dX7_colourByKind_1 (by decide) rfl rfl ?_
    refine ex_iload_n dX7_colourByKind_43 rfl rfl ?_
    refine ex_iconst (x := 1) dX7_colourByKind_44 rfl rfl ?_
    refine ex_iload_n dX7_colourByKind_45 rfl rfl ?_
    refine ex_iconst (x := 5) dX7_colourByKind_46 rfl rfl ?_
    refine ex_irem (z := nI (m % 5)) dX7_colourByKind_47 rfl (by decide) (pk_rem (by omega) (by decide) (by decide)) ?_
    refine ex_ishl (z := 1 <<< ((nI (m % 5)) &&& 31)) dX7_colourByKind_48 rfl (rfl) ?_
    refine ex_ior (z := x ||| (1 <<< ((nI (m % 5)) &&& 31))) dX7_colourByKind_49 rfl (rfl) ?_
    refine ex_callS (rest := []) dX7_colourByKind_50 rfl qp_6_75 rfl rfl rfl (Nat.le_of_ble_eq_true rfl) (c_least _ (x ||| (1 <<< ((nI (m % 5)) &&& 31)))) (Nat.le_of_ble_eq_true rfl) ?_
    show Ex lay _ mX7_colourByKind 53 [some (.int 4), some (.int (nI m)), some (.int x)] [.int (tn_lst (x ||| (1 <<< ((nI (m % 5)) &&& 31))))] σ _ _
    exact ex_iret dX7_colourByKind_53 rfl (by simp [tn_kd]) rfl
  · refine ex_tswI (q := 78) (off := 77) dX7_colourByKind_1 (by decide) rfl rfl ?_
    refine ex_iconst (x := 0) dX7_colourByKind_78 rfl rfl ?_
    refine ex_callS (rest := []) dX7_colourByKind_79 rfl qp_6_75 rfl rfl rfl (Nat.le_of_ble_eq_true rfl) (c_least _ 0) (Nat.le_of_ble_eq_true rfl) ?_
    show Ex lay _ mX7_colourByKind 82 [some (.int 5), some (.int (nI m)), some (.int x)] [.int (tn_lst 0)] σ _ _
    exact ex_iret dX7_colourByKind_82 rfl (by simp [tn_kd]) rfl

/-- a kind that is under another, or it -/
def tn_of (k a : Nat) : Bool := a == 0 || k == a || (a == 1 && k == 3) || (a == 2 && k == 4)
set_option maxHeartbeats 2000000 in
theorem c_isOfKind {lay : List qm_LE} (σ : qm_St) {k a : Nat} (hk : k ≤ 5) (ha : a ≤ 6) : Ok lay 0 mX7_isOfKind [.int (nI k), .int (nI a)] σ (some (.int (b2i (tn_of k a)))) σ := by
  have hk6 : k = 0 ∨ k = 1 ∨ k = 2 ∨ k = 3 ∨ k = 4 ∨ k = 5 := by omega
  have ha6 : a = 0 ∨ a = 1 ∨ a = 2 ∨ a = 3 ∨ a = 4 ∨ a = 5 ∨ a = 6 := by omega
  rcases hk6 with rfl | rfl | rfl | rfl | rfl | rfl <;> rcases ha6 with rfl | rfl | rfl | rfl | rfl | rfl | rfl
  · refine Ok.of (ls := [some (.int 0), some (.int 0)]) (Nat.le_of_ble_eq_true rfl) rfl ?_
    refine ex_iload_n dX7_isOfKind_0 rfl rfl ?_
    refine ex_tswI (q := 28) (off := 27) dX7_isOfKind_1 (by decide) rfl rfl ?_
    refine ex_iconst (x := 1) dX7_isOfKind_28 rfl rfl ?_
    exact ex_zret dX7_isOfKind_29 rfl (by decide) rfl rfl
  · refine Ok.of (ls := [some (.int 0), some (.int 1)]) (Nat.le_of_ble_eq_true rfl) rfl ?_
    refine ex_iload_n dX7_isOfKind_0 rfl rfl ?_
    refine ex_tswI (q := 30) (off := 29) dX7_isOfKind_1 (by decide) rfl rfl ?_
    refine ex_iload_n dX7_isOfKind_30 rfl rfl ?_
    refine ex_iconst (x := 1) dX7_isOfKind_31 rfl rfl ?_
    refine ex_icmp_eq (q := 40) (q2 := 35) dX7_isOfKind_32 rfl rfl (fun hh => absurd hh (by decide)) (fun _ => ?_)
    refine ex_iload_n dX7_isOfKind_35 rfl rfl ?_
    refine ex_iconst (x := 3) dX7_isOfKind_36 rfl rfl ?_
    refine ex_icmp_ne (q := 44) (q2 := 40) dX7_isOfKind_37 rfl rfl (fun _ => ?_) (fun hh => absurd (by decide) hh)
    refine ex_iconst (x := 0) dX7_isOfKind_44 rfl rfl ?_
    exact ex_zret dX7_isOfKind_45 rfl (by decide) rfl rfl
  · refine Ok.of (ls := [some (.int 0), some (.int 2)]) (Nat.le_of_ble_eq_true rfl) rfl ?_
    refine ex_iload_n dX7_isOfKind_0 rfl rfl ?_
    refine ex_tswI (q := 46) (off := 45) dX7_isOfKind_1 (by decide) rfl rfl ?_
    refine ex_iload_n dX7_isOfKind_46 rfl rfl ?_
    refine ex_iconst (x := 2) dX7_isOfKind_47 rfl rfl ?_
    refine ex_icmp_eq (q := 56) (q2 := 51) dX7_isOfKind_48 rfl rfl (fun hh => absurd hh (by decide)) (fun _ => ?_)
    refine ex_iload_n dX7_isOfKind_51 rfl rfl ?_
    refine ex_iconst (x := 4) dX7_isOfKind_52 rfl rfl ?_
    refine ex_icmp_ne (q := 60) (q2 := 56) dX7_isOfKind_53 rfl rfl (fun _ => ?_) (fun hh => absurd (by decide) hh)
    refine ex_iconst (x := 0) dX7_isOfKind_60 rfl rfl ?_
    exact ex_zret dX7_isOfKind_61 rfl (by decide) rfl rfl
  · refine Ok.of (ls := [some (.int 0), some (.int 3)]) (Nat.le_of_ble_eq_true rfl) rfl ?_
    refine ex_iload_n dX7_isOfKind_0 rfl rfl ?_
    refine ex_tswO (q := 62) dX7_isOfKind_1 (by decide) rfl ?_
    refine ex_iload_n dX7_isOfKind_62 rfl rfl ?_
    refine ex_iload_n dX7_isOfKind_63 rfl rfl ?_
    refine ex_icmp_ne (q := 71) (q2 := 67) dX7_isOfKind_64 rfl rfl (fun _ => ?_) (fun hh => absurd (by decide) hh)
    refine ex_iconst (x := 0) dX7_isOfKind_71 rfl rfl ?_
    exact ex_zret dX7_isOfKind_72 rfl (by decide) rfl rfl
  · refine Ok.of (ls := [some (.int 0), some (.int 4)]) (Nat.le_of_ble_eq_true rfl) rfl ?_
    refine ex_iload_n dX7_isOfKind_0 rfl rfl ?_
    refine ex_tswO (q := 62) dX7_isOfKind_1 (by decide) rfl ?_
    refine ex_iload_n dX7_isOfKind_62 rfl rfl ?_
    refine ex_iload_n dX7_isOfKind_63 rfl rfl ?_
    refine ex_icmp_ne (q := 71) (q2 := 67) dX7_isOfKind_64 rfl rfl (fun _ => ?_) (fun hh => absurd (by decide) hh)
    refine ex_iconst (x := 0) dX7_isOfKind_71 rfl rfl ?_
    exact ex_zret dX7_isOfKind_72 rfl (by decide) rfl rfl
  · refine Ok.of (ls := [some (.int 0), some (.int 5)]) (Nat.le_of_ble_eq_true rfl) rfl ?_
    refine ex_iload_n dX7_isOfKind_0 rfl rfl ?_
    refine ex_tswO (q := 62) dX7_isOfKind_1 (by decide) rfl ?_
    refine ex_iload_n dX7_isOfKind_62 rfl rfl ?_
    refine ex_iload_n dX7_isOfKind_63 rfl rfl ?_
    refine ex_icmp_ne (q := 71) (q2 := 67) dX7_isOfKind_64 rfl rfl (fun _ => ?_) (fun hh => absurd (by decide) hh)
    refine ex_iconst (x := 0) dX7_isOfKind_71 rfl rfl ?_
    exact ex_zret dX7_isOfKind_72 rfl (by decide) rfl rfl
  · refine Ok.of (ls := [some (.int 0), some (.int 6)]) (Nat.le_of_ble_eq_true rfl) rfl ?_
    refine ex_iload_n dX7_isOfKind_0 rfl rfl ?_
    refine ex_tswO (q := 62) dX7_isOfKind_1 (by decide) rfl ?_
    refine ex_iload_n dX7_isOfKind_62 rfl rfl ?_
    refine ex_iload_n dX7_isOfKind_63 rfl rfl ?_
    refine ex_icmp_ne (q := 71) (q2 := 67) dX7_isOfKind_64 rfl rfl (fun _ => ?_) (fun hh => absurd (by decide) hh)
    refine ex_iconst (x := 0) dX7_isOfKind_71 rfl rfl ?_
    exact ex_zret dX7_isOfKind_72 rfl (by decide) rfl rfl
  · refine Ok.of (ls := [some (.int 1), some (.int 0)]) (Nat.le_of_ble_eq_true rfl) rfl ?_
    refine ex_iload_n dX7_isOfKind_0 rfl rfl ?_
    refine ex_tswI (q := 28) (off := 27) dX7_isOfKind_1 (by decide) rfl rfl ?_
    refine ex_iconst (x := 1) dX7_isOfKind_28 rfl rfl ?_
    exact ex_zret dX7_isOfKind_29 rfl (by decide) rfl rfl
  · refine Ok.of (ls := [some (.int 1), some (.int 1)]) (Nat.le_of_ble_eq_true rfl) rfl ?_
    refine ex_iload_n dX7_isOfKind_0 rfl rfl ?_
    refine ex_tswI (q := 30) (off := 29) dX7_isOfKind_1 (by decide) rfl rfl ?_
    refine ex_iload_n dX7_isOfKind_30 rfl rfl ?_
    refine ex_iconst (x := 1) dX7_isOfKind_31 rfl rfl ?_
    refine ex_icmp_eq (q := 40) (q2 := 35) dX7_isOfKind_32 rfl rfl (fun _ => ?_) (fun hh => absurd (by decide) hh)
    refine ex_iconst (x := 1) dX7_isOfKind_40 rfl rfl ?_
    refine ex_goto (q := 45) dX7_isOfKind_41 rfl ?_
    exact ex_zret dX7_isOfKind_45 rfl (by decide) rfl rfl
  · refine Ok.of (ls := [some (.int 1), some (.int 2)]) (Nat.le_of_ble_eq_true rfl) rfl ?_
    refine ex_iload_n dX7_isOfKind_0 rfl rfl ?_
    refine ex_tswI (q := 46) (off := 45) dX7_isOfKind_1 (by decide) rfl rfl ?_
    refine ex_iload_n dX7_isOfKind_46 rfl rfl ?_
    refine ex_iconst (x := 2) dX7_isOfKind_47 rfl rfl ?_
    refine ex_icmp_eq (q := 56) (q2 := 51) dX7_isOfKind_48 rfl rfl (fun hh => absurd hh (by decide)) (fun _ => ?_)
    refine ex_iload_n dX7_isOfKind_51 rfl rfl ?_
    refine ex_iconst (x := 4) dX7_isOfKind_52 rfl rfl ?_
    refine ex_icmp_ne (q := 60) (q2 := 56) dX7_isOfKind_53 rfl rfl (fun _ => ?_) (fun hh => absurd (by decide) hh)
    refine ex_iconst (x := 0) dX7_isOfKind_60 rfl rfl ?_
    exact ex_zret dX7_isOfKind_61 rfl (by decide) rfl rfl
  · refine Ok.of (ls := [some (.int 1), some (.int 3)]) (Nat.le_of_ble_eq_true rfl) rfl ?_
    refine ex_iload_n dX7_isOfKind_0 rfl rfl ?_
    refine ex_tswO (q := 62) dX7_isOfKind_1 (by decide) rfl ?_
    refine ex_iload_n dX7_isOfKind_62 rfl rfl ?_
    refine ex_iload_n dX7_isOfKind_63 rfl rfl ?_
    refine ex_icmp_ne (q := 71) (q2 := 67) dX7_isOfKind_64 rfl rfl (fun _ => ?_) (fun hh => absurd (by decide) hh)
    refine ex_iconst (x := 0) dX7_isOfKind_71 rfl rfl ?_
    exact ex_zret dX7_isOfKind_72 rfl (by decide) rfl rfl
  · refine Ok.of (ls := [some (.int 1), some (.int 4)]) (Nat.le_of_ble_eq_true rfl) rfl ?_
    refine ex_iload_n dX7_isOfKind_0 rfl rfl ?_
    refine ex_tswO (q := 62) dX7_isOfKind_1 (by decide) rfl ?_
    refine ex_iload_n dX7_isOfKind_62 rfl rfl ?_
    refine ex_iload_n dX7_isOfKind_63 rfl rfl ?_
    refine ex_icmp_ne (q := 71) (q2 := 67) dX7_isOfKind_64 rfl rfl (fun _ => ?_) (fun hh => absurd (by decide) hh)
    refine ex_iconst (x := 0) dX7_isOfKind_71 rfl rfl ?_
    exact ex_zret dX7_isOfKind_72 rfl (by decide) rfl rfl
  · refine Ok.of (ls := [some (.int 1), some (.int 5)]) (Nat.le_of_ble_eq_true rfl) rfl ?_
    refine ex_iload_n dX7_isOfKind_0 rfl rfl ?_
    refine ex_tswO (q := 62) dX7_isOfKind_1 (by decide) rfl ?_
    refine ex_iload_n dX7_isOfKind_62 rfl rfl ?_
    refine ex_iload_n dX7_isOfKind_63 rfl rfl ?_
    refine ex_icmp_ne (q := 71) (q2 := 67) dX7_isOfKind_64 rfl rfl (fun _ => ?_) (fun hh => absurd (by decide) hh)
    refine ex_iconst (x := 0) dX7_isOfKind_71 rfl rfl ?_
    exact ex_zret dX7_isOfKind_72 rfl (by decide) rfl rfl
  · refine Ok.of (ls := [some (.int 1), some (.int 6)]) (Nat.le_of_ble_eq_true rfl) rfl ?_
    refine ex_iload_n dX7_isOfKind_0 rfl rfl ?_
    refine ex_tswO (q := 62) dX7_isOfKind_1 (by decide) rfl ?_
    refine ex_iload_n dX7_isOfKind_62 rfl rfl ?_
    refine ex_iload_n dX7_isOfKind_63 rfl rfl ?_
    refine ex_icmp_ne (q := 71) (q2 := 67) dX7_isOfKind_64 rfl rfl (fun _ => ?_) (fun hh => absurd (by decide) hh)
    refine ex_iconst (x := 0) dX7_isOfKind_71 rfl rfl ?_
    exact ex_zret dX7_isOfKind_72 rfl (by decide) rfl rfl
  · refine Ok.of (ls := [some (.int 2), some (.int 0)]) (Nat.le_of_ble_eq_true rfl) rfl ?_
    refine ex_iload_n dX7_isOfKind_0 rfl rfl ?_
    refine ex_tswI (q := 28) (off := 27) dX7_isOfKind_1 (by decide) rfl rfl ?_
    refine ex_iconst (x := 1) dX7_isOfKind_28 rfl rfl ?_
    exact ex_zret dX7_isOfKind_29 rfl (by decide) rfl rfl
  · refine Ok.of (ls := [some (.int 2), some (.int 1)]) (Nat.le_of_ble_eq_true rfl) rfl ?_
    refine ex_iload_n dX7_isOfKind_0 rfl rfl ?_
    refine ex_tswI (q := 30) (off := 29) dX7_isOfKind_1 (by decide) rfl rfl ?_
    refine ex_iload_n dX7_isOfKind_30 rfl rfl ?_
    refine ex_iconst (x := 1) dX7_isOfKind_31 rfl rfl ?_
    refine ex_icmp_eq (q := 40) (q2 := 35) dX7_isOfKind_32 rfl rfl (fun hh => absurd hh (by decide)) (fun _ => ?_)
    refine ex_iload_n dX7_isOfKind_35 rfl rfl ?_
    refine ex_iconst (x := 3) dX7_isOfKind_36 rfl rfl ?_
    refine ex_icmp_ne (q := 44) (q2 := 40) dX7_isOfKind_37 rfl rfl (fun _ => ?_) (fun hh => absurd (by decide) hh)
    refine ex_iconst (x := 0) dX7_isOfKind_44 rfl rfl ?_
    exact ex_zret dX7_isOfKind_45 rfl (by decide) rfl rfl
  · refine Ok.of (ls := [some (.int 2), some (.int 2)]) (Nat.le_of_ble_eq_true rfl) rfl ?_
    refine ex_iload_n dX7_isOfKind_0 rfl rfl ?_
    refine ex_tswI (q := 46) (off := 45) dX7_isOfKind_1 (by decide) rfl rfl ?_
    refine ex_iload_n dX7_isOfKind_46 rfl rfl ?_
    refine ex_iconst (x := 2) dX7_isOfKind_47 rfl rfl ?_
    refine ex_icmp_eq (q := 56) (q2 := 51) dX7_isOfKind_48 rfl rfl (fun _ => ?_) (fun hh => absurd (by decide) hh)
    refine ex_iconst (x := 1) dX7_isOfKind_56 rfl rfl ?_
    refine ex_goto (q := 61) dX7_isOfKind_57 rfl ?_
    exact ex_zret dX7_isOfKind_61 rfl (by decide) rfl rfl
  · refine Ok.of (ls := [some (.int 2), some (.int 3)]) (Nat.le_of_ble_eq_true rfl) rfl ?_
    refine ex_iload_n dX7_isOfKind_0 rfl rfl ?_
    refine ex_tswO (q := 62) dX7_isOfKind_1 (by decide) rfl ?_
    refine ex_iload_n dX7_isOfKind_62 rfl rfl ?_
    refine ex_iload_n dX7_isOfKind_63 rfl rfl ?_
    refine ex_icmp_ne (q := 71) (q2 := 67) dX7_isOfKind_64 rfl rfl (fun _ => ?_) (fun hh => absurd (by decide) hh)
    refine ex_iconst (x := 0) dX7_isOfKind_71 rfl rfl ?_
    exact ex_zret dX7_isOfKind_72 rfl (by decide) rfl rfl
  · refine Ok.of (ls := [some (.int 2), some (.int 4)]) (Nat.le_of_ble_eq_true rfl) rfl ?_
    refine ex_iload_n dX7_isOfKind_0 rfl rfl ?_
    refine ex_tswO (q := 62) dX7_isOfKind_1 (by decide) rfl ?_
    refine ex_iload_n dX7_isOfKind_62 rfl rfl ?_
    refine ex_iload_n dX7_isOfKind_63 rfl rfl ?_
    refine ex_icmp_ne (q := 71) (q2 := 67) dX7_isOfKind_64 rfl rfl (fun _ => ?_) (fun hh => absurd (by decide) hh)
    refine ex_iconst (x := 0) dX7_isOfKind_71 rfl rfl ?_
    exact ex_zret dX7_isOfKind_72 rfl (by decide) rfl rfl
  · refine Ok.of (ls := [some (.int 2), some (.int 5)]) (Nat.le_of_ble_eq_true rfl) rfl ?_
    refine ex_iload_n dX7_isOfKind_0 rfl rfl ?_
    refine ex_tswO (q := 62) dX7_isOfKind_1 (by decide) rfl ?_
    refine ex_iload_n dX7_isOfKind_62 rfl rfl ?_
    refine ex_iload_n dX7_isOfKind_63 rfl rfl ?_
    refine ex_icmp_ne (q := 71) (q2 := 67) dX7_isOfKind_64 rfl rfl (fun _ => ?_) (fun hh => absurd (by decide) hh)
    refine ex_iconst (x := 0) dX7_isOfKind_71 rfl rfl ?_
    exact ex_zret dX7_isOfKind_72 rfl (by decide) rfl rfl
  · refine Ok.of (ls := [some (.int 2), some (.int 6)]) (Nat.le_of_ble_eq_true rfl) rfl ?_
    refine ex_iload_n dX7_isOfKind_0 rfl rfl ?_
    refine ex_tswO (q := 62) dX7_isOfKind_1 (by decide) rfl ?_
    refine ex_iload_n dX7_isOfKind_62 rfl rfl ?_
    refine ex_iload_n dX7_isOfKind_63 rfl rfl ?_
    refine ex_icmp_ne (q := 71) (q2 := 67) dX7_isOfKind_64 rfl rfl (fun _ => ?_) (fun hh => absurd (by decide) hh)
    refine ex_iconst (x := 0) dX7_isOfKind_71 rfl rfl ?_
    exact ex_zret dX7_isOfKind_72 rfl (by decide) rfl rfl
  · refine Ok.of (ls := [some (.int 3), some (.int 0)]) (Nat.le_of_ble_eq_true rfl) rfl ?_
    refine ex_iload_n dX7_isOfKind_0 rfl rfl ?_
    refine ex_tswI (q := 28) (off := 27) dX7_isOfKind_1 (by decide) rfl rfl ?_
    refine ex_iconst (x := 1) dX7_isOfKind_28 rfl rfl ?_
    exact ex_zret dX7_isOfKind_29 rfl (by decide) rfl rfl
  · refine Ok.of (ls := [some (.int 3), some (.int 1)]) (Nat.le_of_ble_eq_true rfl) rfl ?_
    refine ex_iload_n dX7_isOfKind_0 rfl rfl ?_
    refine ex_tswI (q := 30) (off := 29) dX7_isOfKind_1 (by decide) rfl rfl ?_
    refine ex_iload_n dX7_isOfKind_30 rfl rfl ?_
    refine ex_iconst (x := 1) dX7_isOfKind_31 rfl rfl ?_
    refine ex_icmp_eq (q := 40) (q2 := 35) dX7_isOfKind_32 rfl rfl (fun hh => absurd hh (by decide)) (fun _ => ?_)
    refine ex_iload_n dX7_isOfKind_35 rfl rfl ?_
    refine ex_iconst (x := 3) dX7_isOfKind_36 rfl rfl ?_
    refine ex_icmp_ne (q := 44) (q2 := 40) dX7_isOfKind_37 rfl rfl (fun hh => absurd hh (by decide)) (fun _ => ?_)
    refine ex_iconst (x := 1) dX7_isOfKind_40 rfl rfl ?_
    refine ex_goto (q := 45) dX7_isOfKind_41 rfl ?_
    exact ex_zret dX7_isOfKind_45 rfl (by decide) rfl rfl
  · refine Ok.of (ls := [some (.int 3), some (.int 2)]) (Nat.le_of_ble_eq_true rfl) rfl ?_
    refine ex_iload_n dX7_isOfKind_0 rfl rfl ?_
    refine ex_tswI (q := 46) (off := 45) dX7_isOfKind_1 (by decide) rfl rfl ?_
    refine ex_iload_n dX7_isOfKind_46 rfl rfl ?_
    refine ex_iconst (x := 2) dX7_isOfKind_47 rfl rfl ?_
    refine ex_icmp_eq (q := 56) (q2 := 51) dX7_isOfKind_48 rfl rfl (fun hh => absurd hh (by decide)) (fun _ => ?_)
    refine ex_iload_n dX7_isOfKind_51 rfl rfl ?_
    refine ex_iconst (x := 4) dX7_isOfKind_52 rfl rfl ?_
    refine ex_icmp_ne (q := 60) (q2 := 56) dX7_isOfKind_53 rfl rfl (fun _ => ?_) (fun hh => absurd (by decide) hh)
    refine ex_iconst (x := 0) dX7_isOfKind_60 rfl rfl ?_
    exact ex_zret dX7_isOfKind_61 rfl (by decide) rfl rfl
  · refine Ok.of (ls := [some (.int 3), some (.int 3)]) (Nat.le_of_ble_eq_true rfl) rfl ?_
    refine ex_iload_n dX7_isOfKind_0 rfl rfl ?_
    refine ex_tswO (q := 62) dX7_isOfKind_1 (by decide) rfl ?_
    refine ex_iload_n dX7_isOfKind_62 rfl rfl ?_
    refine ex_iload_n dX7_isOfKind_63 rfl rfl ?_
    refine ex_icmp_ne (q := 71) (q2 := 67) dX7_isOfKind_64 rfl rfl (fun hh => absurd hh (by decide)) (fun _ => ?_)
    refine ex_iconst (x := 1) dX7_isOfKind_67 rfl rfl ?_
    refine ex_goto (q := 72) dX7_isOfKind_68 rfl ?_
    exact ex_zret dX7_isOfKind_72 rfl (by decide) rfl rfl
  · refine Ok.of (ls := [some (.int 3), some (.int 4)]) (Nat.le_of_ble_eq_true rfl) rfl ?_
    refine ex_iload_n dX7_isOfKind_0 rfl rfl ?_
    refine ex_tswO (q := 62) dX7_isOfKind_1 (by decide) rfl ?_
    refine ex_iload_n dX7_isOfKind_62 rfl rfl ?_
    refine ex_iload_n dX7_isOfKind_63 rfl rfl ?_
    refine ex_icmp_ne (q := 71) (q2 := 67) dX7_isOfKind_64 rfl rfl (fun _ => ?_) (fun hh => absurd (by decide) hh)
    refine ex_iconst (x := 0) dX7_isOfKind_71 rfl rfl ?_
    exact ex_zret dX7_isOfKind_72 rfl (by decide) rfl rfl
  · refine Ok.of (ls := [some (.int 3), some (.int 5)]) (Nat.le_of_ble_eq_true rfl) rfl ?_
    refine ex_iload_n dX7_isOfKind_0 rfl rfl ?_
    refine ex_tswO (q := 62) dX7_isOfKind_1 (by decide) rfl ?_
    refine ex_iload_n dX7_isOfKind_62 rfl rfl ?_
    refine ex_iload_n dX7_isOfKind_63 rfl rfl ?_
    refine ex_icmp_ne (q := 71) (q2 := 67) dX7_isOfKind_64 rfl rfl (fun _ => ?_) (fun hh => absurd (by decide) hh)
    refine ex_iconst (x := 0) dX7_isOfKind_71 rfl rfl ?_
    exact ex_zret dX7_isOfKind_72 rfl (by decide) rfl rfl
  · refine Ok.of (ls := [some (.int 3), some (.int 6)]) (Nat.le_of_ble_eq_true rfl) rfl ?_
    refine ex_iload_n dX7_isOfKind_0 rfl rfl ?_
    refine ex_tswO (q := 62) dX7_isOfKind_1 (by decide) rfl ?_
    refine ex_iload_n dX7_isOfKind_62 rfl rfl ?_
    refine ex_iload_n dX7_isOfKind_63 rfl rfl ?_
    refine ex_icmp_ne (q := 71) (q2 := 67) dX7_isOfKind_64 rfl rfl (fun _ => ?_) (fun hh => absurd (by decide) hh)
    refine ex_iconst (x := 0) dX7_isOfKind_71 rfl rfl ?_
    exact ex_zret dX7_isOfKind_72 rfl (by decide) rfl rfl
  · refine Ok.of (ls := [some (.int 4), some (.int 0)]) (Nat.le_of_ble_eq_true rfl) rfl ?_
    refine ex_iload_n dX7_isOfKind_0 rfl rfl ?_
    refine ex_tswI (q := 28) (off := 27) dX7_isOfKind_1 (by decide) rfl rfl ?_
    refine ex_iconst (x := 1) dX7_isOfKind_28 rfl rfl ?_
    exact ex_zret dX7_isOfKind_29 rfl (by decide) rfl rfl
  · refine Ok.of (ls := [some (.int 4), some (.int 1)]) (Nat.le_of_ble_eq_true rfl) rfl ?_
    refine ex_iload_n dX7_isOfKind_0 rfl rfl ?_
    refine ex_tswI (q := 30) (off := 29) dX7_isOfKind_1 (by decide) rfl rfl ?_
    refine ex_iload_n dX7_isOfKind_30 rfl rfl ?_
    refine ex_iconst (x := 1) dX7_isOfKind_31 rfl rfl ?_
    refine ex_icmp_eq (q := 40) (q2 := 35) dX7_isOfKind_32 rfl rfl (fun hh => absurd hh (by decide)) (fun _ => ?_)
    refine ex_iload_n dX7_isOfKind_35 rfl rfl ?_
    refine ex_iconst (x := 3) dX7_isOfKind_36 rfl rfl ?_
    refine ex_icmp_ne (q := 44) (q2 := 40) dX7_isOfKind_37 rfl rfl (fun _ => ?_) (fun hh => absurd (by decide) hh)
    refine ex_iconst (x := 0) dX7_isOfKind_44 rfl rfl ?_
    exact ex_zret dX7_isOfKind_45 rfl (by decide) rfl rfl
  · refine Ok.of (ls := [some (.int 4), some (.int 2)]) (Nat.le_of_ble_eq_true rfl) rfl ?_
    refine ex_iload_n dX7_isOfKind_0 rfl rfl ?_
    refine ex_tswI (q := 46) (off := 45) dX7_isOfKind_1 (by decide) rfl rfl ?_
    refine ex_iload_n dX7_isOfKind_46 rfl rfl ?_
    refine ex_iconst (x := 2) dX7_isOfKind_47 rfl rfl ?_
    refine ex_icmp_eq (q := 56) (q2 := 51) dX7_isOfKind_48 rfl rfl (fun hh => absurd hh (by decide)) (fun _ => ?_)
    refine ex_iload_n dX7_isOfKind_51 rfl rfl ?_
    refine ex_iconst (x := 4) dX7_isOfKind_52 rfl rfl ?_
    refine ex_icmp_ne (q := 60) (q2 := 56) dX7_isOfKind_53 rfl rfl (fun hh => absurd hh (by decide)) (fun _ => ?_)
    refine ex_iconst (x := 1) dX7_isOfKind_56 rfl rfl ?_
    refine ex_goto (q := 61) dX7_isOfKind_57 rfl ?_
    exact ex_zret dX7_isOfKind_61 rfl (by decide) rfl rfl
  · refine Ok.of (ls := [some (.int 4), some (.int 3)]) (Nat.le_of_ble_eq_true rfl) rfl ?_
    refine ex_iload_n dX7_isOfKind_0 rfl rfl ?_
    refine ex_tswO (q := 62) dX7_isOfKind_1 (by decide) rfl ?_
    refine ex_iload_n dX7_isOfKind_62 rfl rfl ?_
    refine ex_iload_n dX7_isOfKind_63 rfl rfl ?_
    refine ex_icmp_ne (q := 71) (q2 := 67) dX7_isOfKind_64 rfl rfl (fun _ => ?_) (fun hh => absurd (by decide) hh)
    refine ex_iconst (x := 0) dX7_isOfKind_71 rfl rfl ?_
    exact ex_zret dX7_isOfKind_72 rfl (by decide) rfl rfl
  · refine Ok.of (ls := [some (.int 4), some (.int 4)]) (Nat.le_of_ble_eq_true rfl) rfl ?_
    refine ex_iload_n dX7_isOfKind_0 rfl rfl ?_
    refine ex_tswO (q := 62) dX7_isOfKind_1 (by decide) rfl ?_
    refine ex_iload_n dX7_isOfKind_62 rfl rfl ?_
    refine ex_iload_n dX7_isOfKind_63 rfl rfl ?_
    refine ex_icmp_ne (q := 71) (q2 := 67) dX7_isOfKind_64 rfl rfl (fun hh => absurd hh (by decide)) (fun _ => ?_)
    refine ex_iconst (x := 1) dX7_isOfKind_67 rfl rfl ?_
    refine ex_goto (q := 72) dX7_isOfKind_68 rfl ?_
    exact ex_zret dX7_isOfKind_72 rfl (by decide) rfl rfl
  · refine Ok.of (ls := [some (.int 4), some (.int 5)]) (Nat.le_of_ble_eq_true rfl) rfl ?_
    refine ex_iload_n dX7_isOfKind_0 rfl rfl ?_
    refine ex_tswO (q := 62) dX7_isOfKind_1 (by decide) rfl ?_
    refine ex_iload_n dX7_isOfKind_62 rfl rfl ?_
    refine ex_iload_n dX7_isOfKind_63 rfl rfl ?_
    refine ex_icmp_ne (q := 71) (q2 := 67) dX7_isOfKind_64 rfl rfl (fun _ => ?_) (fun hh => absurd (by decide) hh)
    refine ex_iconst (x := 0) dX7_isOfKind_71 rfl rfl ?_
    exact ex_zret dX7_isOfKind_72 rfl (by decide) rfl rfl
  · refine Ok.of (ls := [some (.int 4), some (.int 6)]) (Nat.le_of_ble_eq_true rfl) rfl ?_
    refine ex_iload_n dX7_isOfKind_0 rfl rfl ?_
    refine ex_tswO (q := 62) dX7_isOfKind_1 (by decide) rfl ?_
    refine ex_iload_n dX7_isOfKind_62 rfl rfl ?_
    refine ex_iload_n dX7_isOfKind_63 rfl rfl ?_
    refine ex_icmp_ne (q := 71) (q2 := 67) dX7_isOfKind_64 rfl rfl (fun _ => ?_) (fun hh => absurd (by decide) hh)
    refine ex_iconst (x := 0) dX7_isOfKind_71 rfl rfl ?_
    exact ex_zret dX7_isOfKind_72 rfl (by decide) rfl rfl
  · refine Ok.of (ls := [some (.int 5), some (.int 0)]) (Nat.le_of_ble_eq_true rfl) rfl ?_
    refine ex_iload_n dX7_isOfKind_0 rfl rfl ?_
    refine ex_tswI (q := 28) (off := 27) dX7_isOfKind_1 (by decide) rfl rfl ?_
    refine ex_iconst (x := 1) dX7_isOfKind_28 rfl rfl ?_
    exact ex_zret dX7_isOfKind_29 rfl (by decide) rfl rfl
  · refine Ok.of (ls := [some (.int 5), some (.int 1)]) (Nat.le_of_ble_eq_true rfl) rfl ?_
    refine ex_iload_n dX7_isOfKind_0 rfl rfl ?_
    refine ex_tswI (q := 30) (off := 29) dX7_isOfKind_1 (by decide) rfl rfl ?_
    refine ex_iload_n dX7_isOfKind_30 rfl rfl ?_
    refine ex_iconst (x := 1) dX7_isOfKind_31 rfl rfl ?_
    refine ex_icmp_eq (q := 40) (q2 := 35) dX7_isOfKind_32 rfl rfl (fun hh => absurd hh (by decide)) (fun _ => ?_)
    refine ex_iload_n dX7_isOfKind_35 rfl rfl ?_
    refine ex_iconst (x := 3) dX7_isOfKind_36 rfl rfl ?_
    refine ex_icmp_ne (q := 44) (q2 := 40) dX7_isOfKind_37 rfl rfl (fun _ => ?_) (fun hh => absurd (by decide) hh)
    refine ex_iconst (x := 0) dX7_isOfKind_44 rfl rfl ?_
    exact ex_zret dX7_isOfKind_45 rfl (by decide) rfl rfl
  · refine Ok.of (ls := [some (.int 5), some (.int 2)]) (Nat.le_of_ble_eq_true rfl) rfl ?_
    refine ex_iload_n dX7_isOfKind_0 rfl rfl ?_
    refine ex_tswI (q := 46) (off := 45) dX7_isOfKind_1 (by decide) rfl rfl ?_
    refine ex_iload_n dX7_isOfKind_46 rfl rfl ?_
    refine ex_iconst (x := 2) dX7_isOfKind_47 rfl rfl ?_
    refine ex_icmp_eq (q := 56) (q2 := 51) dX7_isOfKind_48 rfl rfl (fun hh => absurd hh (by decide)) (fun _ => ?_)
    refine ex_iload_n dX7_isOfKind_51 rfl rfl ?_
    refine ex_iconst (x := 4) dX7_isOfKind_52 rfl rfl ?_
    refine ex_icmp_ne (q := 60) (q2 := 56) dX7_isOfKind_53 rfl rfl (fun _ => ?_) (fun hh => absurd (by decide) hh)
    refine ex_iconst (x := 0) dX7_isOfKind_60 rfl rfl ?_
    exact ex_zret dX7_isOfKind_61 rfl (by decide) rfl rfl
  · refine Ok.of (ls := [some (.int 5), some (.int 3)]) (Nat.le_of_ble_eq_true rfl) rfl ?_
    refine ex_iload_n dX7_isOfKind_0 rfl rfl ?_
    refine ex_tswO (q := 62) dX7_isOfKind_1 (by decide) rfl ?_
    refine ex_iload_n dX7_isOfKind_62 rfl rfl ?_
    refine ex_iload_n dX7_isOfKind_63 rfl rfl ?_
    refine ex_icmp_ne (q := 71) (q2 := 67) dX7_isOfKind_64 rfl rfl (fun _ => ?_) (fun hh => absurd (by decide) hh)
    refine ex_iconst (x := 0) dX7_isOfKind_71 rfl rfl ?_
    exact ex_zret dX7_isOfKind_72 rfl (by decide) rfl rfl
  · refine Ok.of (ls := [some (.int 5), some (.int 4)]) (Nat.le_of_ble_eq_true rfl) rfl ?_
    refine ex_iload_n dX7_isOfKind_0 rfl rfl ?_
    refine ex_tswO (q := 62) dX7_isOfKind_1 (by decide) rfl ?_
    refine ex_iload_n dX7_isOfKind_62 rfl rfl ?_
    refine ex_iload_n dX7_isOfKind_63 rfl rfl ?_
    refine ex_icmp_ne (q := 71) (q2 := 67) dX7_isOfKind_64 rfl rfl (fun _ => ?_) (fun hh => absurd (by decide) hh)
    refine ex_iconst (x := 0) dX7_isOfKind_71 rfl rfl ?_
    exact ex_zret dX7_isOfKind_72 rfl (by decide) rfl rfl
  · refine Ok.of (ls := [some (.int 5), some (.int 5)]) (Nat.le_of_ble_eq_true rfl) rfl ?_
    refine ex_iload_n dX7_isOfKind_0 rfl rfl ?_
    refine ex_tswO (q := 62) dX7_isOfKind_1 (by decide) rfl ?_
    refine ex_iload_n dX7_isOfKind_62 rfl rfl ?_
    refine ex_iload_n dX7_isOfKind_63 rfl rfl ?_
    refine ex_icmp_ne (q := 71) (q2 := 67) dX7_isOfKind_64 rfl rfl (fun hh => absurd hh (by decide)) (fun _ => ?_)
    refine ex_iconst (x := 1) dX7_isOfKind_67 rfl rfl ?_
    refine ex_goto (q := 72) dX7_isOfKind_68 rfl ?_
    exact ex_zret dX7_isOfKind_72 rfl (by decide) rfl rfl
  · refine Ok.of (ls := [some (.int 5), some (.int 6)]) (Nat.le_of_ble_eq_true rfl) rfl ?_
    refine ex_iload_n dX7_isOfKind_0 rfl rfl ?_
    refine ex_tswO (q := 62) dX7_isOfKind_1 (by decide) rfl ?_
    refine ex_iload_n dX7_isOfKind_62 rfl rfl ?_
    refine ex_iload_n dX7_isOfKind_63 rfl rfl ?_
    refine ex_icmp_ne (q := 71) (q2 := 67) dX7_isOfKind_64 rfl rfl (fun _ => ?_) (fun hh => absurd (by decide) hh)
    refine ex_iconst (x := 0) dX7_isOfKind_71 rfl rfl ?_
    exact ex_zret dX7_isOfKind_72 rfl (by decide) rfl rfl

theorem c_hasLot_0 {σ : qm_St} {T : tn_T} (hT : tn_ok T) (h : TR σ 9 18 T) (l : Int32) : Ok qm_lay 0 mX7_hasLot [.ref 22, .int l] σ (some (.int (b2i (tn_has T l)))) σ := by
  refine Ok.of (ls := [some (.ref 22), some (.int l)]) (Nat.le_of_ble_eq_true rfl) rfl ?_
  refine ex_iload_n dX7_hasLot_0 rfl rfl ?_
  refine ex_if_lt (q := 16) (q2 := 4) dX7_hasLot_1 rfl rfl (fun h1 => ?_) (fun h1 => ?_)
  · refine ex_iconst (x := 0) dX7_hasLot_16 rfl rfl ?_
    exact ex_zret dX7_hasLot_17 rfl (by decide) (by first | exact b2i_t (decide_eq_true ⟨Int32.not_lt.mp h1, Int32.not_le.mp h9⟩) | exact b2i_f (decide_eq_false (fun z => Int32.not_lt.mpr z.1 h1)) | exact b2i_f (decide_eq_false (fun z => Int32.not_le.mpr z.2 h9))) rfl
  · refine ex_iload_n dX7_hasLot_4 rfl rfl ?_
    refine ex_aload_n dX7_hasLot_5 rfl rfl ?_
    refine ex_getI (s := 9) (x := nI (tn_L T)) dX7_hasLot_6 rfl qp_6_27 rfl rfl (h.1) ?_
    refine ex_icmp_ge (q := 16) (q2 := 12) dX7_hasLot_9 rfl rfl (fun h9 => ?_) (fun h9 => ?_)
    · refine ex_iconst (x := 0) dX7_hasLot_16 rfl rfl ?_
      exact ex_zret dX7_hasLot_17 rfl (by decide) (by first | exact b2i_t (decide_eq_true ⟨Int32.not_lt.mp h1, Int32.not_le.mp h9⟩) | exact b2i_f (decide_eq_false (fun z => Int32.not_lt.mpr z.1 h1)) | exact b2i_f (decide_eq_false (fun z => Int32.not_le.mpr z.2 h9))) rfl
    · refine ex_iconst (x := 1) dX7_hasLot_12 rfl rfl ?_
      refine ex_goto (q := 17) dX7_hasLot_13 rfl ?_
      exact ex_zret dX7_hasLot_17 rfl (by decide) (by first | exact b2i_t (decide_eq_true ⟨Int32.not_lt.mp h1, Int32.not_le.mp h9⟩) | exact b2i_f (decide_eq_false (fun z => Int32.not_lt.mpr z.1 h1)) | exact b2i_f (decide_eq_false (fun z => Int32.not_le.mpr z.2 h9))) rfl

theorem c_isBuilt_0 {σ : qm_St} {T : tn_T} (hT : tn_ok T) (h : TR σ 9 18 T) (l : Int32) : Ok qm_lay 1 mX7_isBuilt [.ref 22, .int l] σ (some (.int (b2i (tn_blt T l)))) σ := by
  refine Ok.of (ls := [some (.ref 22), some (.int l)]) (Nat.le_of_ble_eq_true rfl) rfl ?_
  refine ex_aload_n dX7_isBuilt_0 rfl rfl ?_
  refine ex_iload_n dX7_isBuilt_1 rfl rfl ?_
  refine ex_callV (a := 22) (rest := []) dX7_isBuilt_2 rfl qp_6_46 rfl rfl rfl rfl rfl (Nat.le_of_ble_eq_true rfl) (c_hasLot_0 hT h l) (Nat.le_of_ble_eq_true rfl) ?_
  show Ex qm_lay _ mX7_isBuilt 5 [some (.ref 22), some (.int l)] [.int (b2i (tn_has T l))] σ _ _
  refine ex_if_eq (q := 23) (q2 := 8) dX7_isBuilt_5 rfl rfl (fun h5 => ?_) (fun h5 => ?_)
  · refine ex_iconst (x := 0) dX7_isBuilt_23 rfl rfl ?_
    exact ex_zret dX7_isBuilt_24 rfl (by decide) (by first | exact b2i_f (by rw [tn_blt, b2i_0.mp h5]; rfl) | exact b2i_t (by rw [hlk, tn_blt_nI hT hk]; exact b2i_n0.mp h16) | exact b2i_f (by rw [hlk, tn_blt_nI hT hk]; exact b2i_0.mp h16)) rfl
  · obtain ⟨k, hk, hlk⟩ := tn_has_of hT (b2i_n0.mp h5)
    have hL := hT.1
    have hu := tn_u_lt hT
    refine ex_aload_n dX7_isBuilt_8 rfl rfl ?_
    refine ex_getI (s := 12) (x := nI (tn_u T)) dX7_isBuilt_9 rfl qp_6_37 rfl rfl (h.2.2.2.1) ?_
    refine ex_iload_n dX7_isBuilt_12 rfl rfl ?_
    refine ex_ishr (z := (nI (tn_u T)) >>> (l &&& 31)) dX7_isBuilt_13 rfl (rfl) ?_
    refine ex_iconst (x := 1) dX7_isBuilt_14 rfl rfl ?_
    refine ex_iand (z := b2i ((tn_u T).testBit k)) dX7_isBuilt_15 rfl (by rw [hlk]; exact nI_bit (by omega) (by omega)) ?_
    refine ex_if_eq (q := 23) (q2 := 19) dX7_isBuilt_16 rfl rfl (fun h16 => ?_) (fun h16 => ?_)
    · refine ex_iconst (x := 0) dX7_isBuilt_23 rfl rfl ?_
      exact ex_zret dX7_isBuilt_24 rfl (by decide) (by first | exact b2i_f (by rw [tn_blt, b2i_0.mp h5]; rfl) | exact b2i_t (by rw [hlk, tn_blt_nI hT hk]; exact b2i_n0.mp h16) | exact b2i_f (by rw [hlk, tn_blt_nI hT hk]; exact b2i_0.mp h16)) rfl
    · refine ex_iconst (x := 1) dX7_isBuilt_19 rfl rfl ?_
      refine ex_goto (q := 24) dX7_isBuilt_20 rfl ?_
      exact ex_zret dX7_isBuilt_24 rfl (by decide) (by first | exact b2i_f (by rw [tn_blt, b2i_0.mp h5]; rfl) | exact b2i_t (by rw [hlk, tn_blt_nI hT hk]; exact b2i_n0.mp h16) | exact b2i_f (by rw [hlk, tn_blt_nI hT hk]; exact b2i_0.mp h16)) rfl

def tn_two (T : tn_T) (x y : Int32) : Bool := tn_has T x && tn_has T y && decide (¬ x = y)
theorem c_hasTwoLots_0 {σ : qm_St} {T : tn_T} (hT : tn_ok T) (h : TR σ 9 18 T) (x y : Int32) : Ok qm_lay 1 mX7_hasTwoLots [.ref 22, .int x, .int y] σ (some (.int (b2i (tn_two T x y)))) σ := by
  refine Ok.of (ls := [some (.ref 22), some (.int x), some (.int y)]) (Nat.le_of_ble_eq_true rfl) rfl ?_
  refine ex_aload_n dX7_hasTwoLots_0 rfl rfl ?_
  refine ex_iload_n dX7_hasTwoLots_1 rfl rfl ?_
  refine ex_callV (a := 22) (rest := []) dX7_hasTwoLots_2 rfl qp_6_46 rfl rfl rfl rfl rfl (Nat.le_of_ble_eq_true rfl) (c_hasLot_0 hT h x) (Nat.le_of_ble_eq_true rfl) ?_
  show Ex qm_lay _ mX7_hasTwoLots 5 [some (.ref 22), some (.int x), some (.int y)] [.int (b2i (tn_has T x))] σ _ _
  refine ex_if_eq (q := 25) (q2 := 8) dX7_hasTwoLots_5 rfl rfl (fun h5 => ?_) (fun h5 => ?_)
  · refine ex_iconst (x := 0) dX7_hasTwoLots_25 rfl rfl ?_
    exact ex_zret dX7_hasTwoLots_26 rfl (by decide) (by first | exact b2i_f (by rw [tn_two, b2i_0.mp h5]; rfl) | exact b2i_f (by rw [tn_two, b2i_0.mp h13, Bool.and_false]; rfl) | exact b2i_f (by rw [tn_two, decide_eq_false (fun z => z h18), Bool.and_false]) | exact b2i_t (by rw [tn_two, b2i_n0.mp h5, b2i_n0.mp h13, decide_eq_true h18]; rfl)) rfl
  · refine ex_aload_n dX7_hasTwoLots_8 rfl rfl ?_
    refine ex_iload_n dX7_hasTwoLots_9 rfl rfl ?_
    refine ex_callV (a := 22) (rest := []) dX7_hasTwoLots_10 rfl qp_6_46 rfl rfl rfl rfl rfl (Nat.le_of_ble_eq_true rfl) (c_hasLot_0 hT h y) (Nat.le_of_ble_eq_true rfl) ?_
    show Ex qm_lay _ mX7_hasTwoLots 13 [some (.ref 22), some (.int x), some (.int y)] [.int (b2i (tn_has T y))] σ _ _
    refine ex_if_eq (q := 25) (q2 := 16) dX7_hasTwoLots_13 rfl rfl (fun h13 => ?_) (fun h13 => ?_)
    · refine ex_iconst (x := 0) dX7_hasTwoLots_25 rfl rfl ?_
      exact ex_zret dX7_hasTwoLots_26 rfl (by decide) (by first | exact b2i_f (by rw [tn_two, b2i_0.mp h5]; rfl) | exact b2i_f (by rw [tn_two, b2i_0.mp h13, Bool.and_false]; rfl) | exact b2i_f (by rw [tn_two, decide_eq_false (fun z => z h18), Bool.and_false]) | exact b2i_t (by rw [tn_two, b2i_n0.mp h5, b2i_n0.mp h13, decide_eq_true h18]; rfl)) rfl
    · refine ex_iload_n dX7_hasTwoLots_16 rfl rfl ?_
      refine ex_iload_n dX7_hasTwoLots_17 rfl rfl ?_
      refine ex_icmp_eq (q := 25) (q2 := 21) dX7_hasTwoLots_18 rfl rfl (fun h18 => ?_) (fun h18 => ?_)
      · refine ex_iconst (x := 0) dX7_hasTwoLots_25 rfl rfl ?_
        exact ex_zret dX7_hasTwoLots_26 rfl (by decide) (by first | exact b2i_f (by rw [tn_two, b2i_0.mp h5]; rfl) | exact b2i_f (by rw [tn_two, b2i_0.mp h13, Bool.and_false]; rfl) | exact b2i_f (by rw [tn_two, decide_eq_false (fun z => z h18), Bool.and_false]) | exact b2i_t (by rw [tn_two, b2i_n0.mp h5, b2i_n0.mp h13, decide_eq_true h18]; rfl)) rfl
      · refine ex_iconst (x := 1) dX7_hasTwoLots_21 rfl rfl ?_
        refine ex_goto (q := 26) dX7_hasTwoLots_22 rfl ?_
        exact ex_zret dX7_hasTwoLots_26 rfl (by decide) (by first | exact b2i_f (by rw [tn_two, b2i_0.mp h5]; rfl) | exact b2i_f (by rw [tn_two, b2i_0.mp h13, Bool.and_false]; rfl) | exact b2i_f (by rw [tn_two, decide_eq_false (fun z => z h18), Bool.and_false]) | exact b2i_t (by rw [tn_two, b2i_n0.mp h5, b2i_n0.mp h13, decide_eq_true h18]; rfl)) rfl

theorem c_areBeside_0 {σ : qm_St} {T : tn_T} (hT : tn_ok T) (h : TR σ 9 18 T) {x y : Nat} (hx : x < tn_L T) (hy : y < tn_L T) : Ok qm_lay 0 mX7_areBeside [.ref 22, .int (nI x), .int (nI y)] σ (some (.int (b2i ((tn_b T x).testBit y)))) σ := by
  refine Ok.of (ls := [some (.ref 22), some (.int (nI x)), some (.int (nI y))]) (Nat.le_of_ble_eq_true rfl) rfl ?_
  have hL := hT.1
  have hbx := tn_b_lt hT hx
  refine ex_aload_n dX7_areBeside_0 rfl rfl ?_
  refine ex_getR (b := 25) dX7_areBeside_1 rfl qp_6_18 rfl rfl ?_
  refine ex_iload_n dX7_areBeside_4 rfl rfl ?_
  refine ex_iaload (k := x) (x := nI (tn_b T x)) dX7_areBeside_5 rfl rfl (rfl) (by omega) (by decide) (TR.bb h (by omega)) ?_
  refine ex_iload_n dX7_areBeside_6 rfl rfl ?_
  refine ex_ishr (z := (nI (tn_b T x)) >>> ((nI y) &&& 31)) dX7_areBeside_7 rfl (rfl) ?_
  refine ex_iconst (x := 1) dX7_areBeside_8 rfl rfl ?_
  refine ex_iand (z := b2i ((tn_b T x).testBit y)) dX7_areBeside_9 rfl (nI_bit (by omega) (by omega)) ?_
  refine ex_if_eq (q := 17) (q2 := 13) dX7_areBeside_10 rfl rfl (fun h10 => ?_) (fun h10 => ?_)
  · refine ex_iconst (x := 0) dX7_areBeside_17 rfl rfl ?_
    exact ex_zret dX7_areBeside_18 rfl (by decide) (by first | exact b2i_f (b2i_0.mp h10) | exact b2i_t (b2i_n0.mp h10)) rfl
  · refine ex_iconst (x := 1) dX7_areBeside_13 rfl rfl ?_
    refine ex_goto (q := 18) dX7_areBeside_14 rfl ?_
    exact ex_zret dX7_areBeside_18 rfl (by decide) (by first | exact b2i_f (b2i_0.mp h10) | exact b2i_t (b2i_n0.mp h10)) rfl

theorem c_colourOf_0 {σ : qm_St} {T : tn_T} (hT : tn_ok T) (h : TR σ 9 18 T) (l : Int32) : Ok qm_lay 2 mX7_colourOf [.ref 22, .int l] σ (some (.int (tn_col T l))) σ := by
  refine Ok.of (ls := [some (.ref 22), some (.int l)]) (Nat.le_of_ble_eq_true rfl) rfl ?_
  refine ex_aload_n dX7_colourOf_0 rfl rfl ?_
  refine ex_iload_n dX7_colourOf_1 rfl rfl ?_
  refine ex_callV (a := 22) (rest := []) dX7_colourOf_2 rfl qp_6_50 rfl rfl rfl rfl rfl (Nat.le_of_ble_eq_true rfl) (c_isBuilt_0 hT h l) (Nat.le_of_ble_eq_true rfl) ?_
  show Ex qm_lay _ mX7_colourOf 5 [some (.ref 22), some (.int l)] [.int (b2i (tn_blt T l))] σ _ _
  refine ex_if_eq (q := 17) (q2 := 8) dX7_colourOf_5 rfl rfl (fun h5 => ?_) (fun h5 => ?_)
  · refine ex_iconst (x := (-1)) dX7_colourOf_17 rfl rfl ?_
    exact ex_iret dX7_colourOf_18 rfl (by first | (rw [tn_col, b2i_0.mp h5]; rfl) | (rw [tn_col, hbl, hlk, nI_clamp (by omega)]; rfl)) rfl
  · have hbl := b2i_n0.mp h5
    obtain ⟨k, hk, hlk⟩ := tn_has_of hT (by rw [tn_blt, Bool.and_eq_true] at hbl; exact hbl.1)
    have hL := hT.1
    have hbk : (tn_u T).testBit k = true := by rw [← tn_blt_nI hT hk, ← hlk]; exact hbl
    refine ex_aload_n dX7_colourOf_8 rfl rfl ?_
    refine ex_getR (b := 26) dX7_colourOf_9 rfl qp_6_21 rfl rfl ?_
    refine ex_iload_n dX7_colourOf_12 rfl rfl ?_
    refine ex_iaload (k := k) (x := nI (tn_c T k)) dX7_colourOf_13 rfl rfl (hlk) (by omega) (by decide) (TR.cc h hk hbk) ?_
    refine ex_goto (q := 18) dX7_colourOf_14 rfl ?_
    exact ex_iret dX7_colourOf_18 rfl (by first | (rw [tn_col, b2i_0.mp h5]; rfl) | (rw [tn_col, hbl, hlk, nI_clamp (by omega)]; rfl)) rfl

theorem c_unbuiltBits_0 {σ : qm_St} {T : tn_T} (hT : tn_ok T) (h : TR σ 9 18 T) : Ok qm_lay 0 mX7_unbuiltBits [.ref 22] σ (some (.int (nI (tn_nb T)))) σ := by
  refine Ok.of (ls := [some (.ref 22)]) (Nat.le_of_ble_eq_true rfl) rfl ?_
  refine ex_iconst (x := 1) dX7_unbuiltBits_0 rfl rfl ?_
  refine ex_aload_n dX7_unbuiltBits_1 rfl rfl ?_
  refine ex_getI (s := 9) (x := nI (tn_L T)) dX7_unbuiltBits_2 rfl qp_6_27 rfl rfl (h.1) ?_
  refine ex_ishl (z := 1 <<< ((nI (tn_L T)) &&& 31)) dX7_unbuiltBits_5 rfl (rfl) ?_
  refine ex_iconst (x := 1) dX7_unbuiltBits_6 rfl rfl ?_
  refine ex_isub (z := (1 <<< ((nI (tn_L T)) &&& 31)) - 1) dX7_unbuiltBits_7 rfl (rfl) ?_
  refine ex_aload_n dX7_unbuiltBits_8 rfl rfl ?_
  refine ex_getI (s := 12) (x := nI (tn_u T)) dX7_unbuiltBits_9 rfl qp_6_37 rfl rfl (h.2.2.2.1) ?_
  refine ex_iconst (x := (-1)) dX7_unbuiltBits_12 rfl rfl ?_
  refine ex_ixor (z := (nI (tn_u T)) ^^^ ((-1))) dX7_unbuiltBits_13 rfl (rfl) ?_
  refine ex_iand (z := ((1 <<< ((nI (tn_L T)) &&& 31)) - 1) &&& ((nI (tn_u T)) ^^^ ((-1)))) dX7_unbuiltBits_14 rfl (rfl) ?_
  exact ex_iret dX7_unbuiltBits_15 rfl (congrArg (fun z => some (Value.int z)) (tn_nb_dec _ (by have := hT.1; omega) _ (tn_u_lt hT) hT.2.2.1)) rfl

set_option maxHeartbeats 2000000 in
theorem l_colourBits_0 {σ : qm_St} {T : tn_T} (hT : tn_ok T) (h : TR σ 9 18 T) : ∀ (n : Nat) (k : Nat), k + n = tn_L T → Ex qm_lay 2 mX7_colourBits 4 [some (.ref 22), some (.int (nI (tn_fo (tn_cf T) k))), some (.int (nI k))] [] σ (some (.int (nI (tn_cb T)))) σ := by
  have hL := hT.1
  intro n
  induction n with
  | zero =>
    intro k hk
    refine ex_iload_n dX7_colourBits_4 rfl rfl ?_
    refine ex_aload_n dX7_colourBits_5 rfl rfl ?_
    refine ex_getI (s := 9) (x := nI (tn_L T)) dX7_colourBits_6 rfl qp_6_27 rfl rfl (h.1) ?_
    refine ex_icmp_ge (q := 37) (q2 := 12) dX7_colourBits_9 rfl rfl (fun _ => ?_) (fun hh => absurd (nI_le (by omega) (by omega)) hh)
    refine ex_iload_n dX7_colourBits_37 rfl rfl ?_
    exact ex_iret dX7_colourBits_38 rfl (by rw [show k = tn_L T by omega]; rfl) rfl
  | succ n ih =>
    intro k hk
    refine ex_iload_n dX7_colourBits_4 rfl rfl ?_
    refine ex_aload_n dX7_colourBits_5 rfl rfl ?_
    refine ex_getI (s := 9) (x := nI (tn_L T)) dX7_colourBits_6 rfl qp_6_27 rfl rfl (h.1) ?_
    refine ex_icmp_ge (q := 37) (q2 := 12) dX7_colourBits_9 rfl rfl (fun hh => absurd hh (nI_ge (by omega) (by omega))) (fun _ => ?_)
    refine ex_aload_n dX7_colourBits_12 rfl rfl ?_
    refine ex_iload_n dX7_colourBits_13 rfl rfl ?_
    refine ex_callV (a := 22) (rest := []) dX7_colourBits_14 rfl qp_6_50 rfl rfl rfl rfl rfl (Nat.le_of_ble_eq_true rfl) (c_isBuilt_0 hT h (nI k)) (Nat.le_of_ble_eq_true rfl) ?_
    show Ex qm_lay _ mX7_colourBits 17 [some (.ref 22), some (.int (nI (tn_fo (tn_cf T) k))), some (.int (nI k))] [.int (b2i (tn_blt T (nI k)))] σ _ _
    refine ex_if_eq (q := 31) (q2 := 20) dX7_colourBits_17 rfl rfl (fun h17 => ?_) (fun h17 => ?_)
    · have hbk : (tn_u T).testBit k = false := by rw [← tn_blt_nI hT (by omega : k < tn_L T)]; exact b2i_0.mp h17
      refine ex_iinc (y := nI (k + 1)) (ls' := [some (.ref 22), some (.int (nI (tn_fo (tn_cf T) k))), some (.int (nI (k + 1)))]) dX7_colourBits_31 rfl rfl rfl (nI_add k 1) rfl ?_
      refine ex_goto (q := 4) dX7_colourBits_34 rfl ?_
      exact Ex.of_ls (by rw [tn_fo_0 (f := tn_cf T) (n := k) (by rw [tn_cf, if_neg (by rw [hbk]; decide)])]) (ih (k + 1) (by omega))
    · have hbk : (tn_u T).testBit k = true := by rw [← tn_blt_nI hT (by omega : k < tn_L T)]; exact b2i_n0.mp h17
      have hc11 := (hT.2.2.2 k (by omega)).2.2.2.2.1 hbk
      refine ex_iload_n dX7_colourBits_20 rfl rfl ?_
      refine ex_iconst (x := 1) dX7_colourBits_21 rfl rfl ?_
      refine ex_aload_n dX7_colourBits_22 rfl rfl ?_
      refine ex_getR (b := 26) dX7_colourBits_23 rfl qp_6_21 rfl rfl ?_
      refine ex_iload_n dX7_colourBits_26 rfl rfl ?_
      refine ex_iaload (k := k) (x := nI (tn_c T k)) dX7_colourBits_27 rfl rfl (rfl) (by omega) (by decide) (TR.cc h (by omega) hbk) ?_
      refine ex_ishl (z := nI (2 ^ tn_c T k)) dX7_colourBits_28 rfl (nI_1shl (by omega)) ?_
      refine ex_ior (z := nI (tn_fo (tn_cf T) (k + 1))) dX7_colourBits_29 rfl (by rw [nI_or, tn_fo, tn_cf, if_pos hbk]) ?_
      refine ex_istore_n (ls' := [some (.ref 22), some (.int (nI (tn_fo (tn_cf T) (k + 1)))), some (.int (nI k))]) dX7_colourBits_30 rfl (Nat.le_of_ble_eq_true rfl) rfl rfl ?_
      refine ex_iinc (y := nI (k + 1)) (ls' := [some (.ref 22), some (.int (nI (tn_fo (tn_cf T) (k + 1)))), some (.int (nI (k + 1)))]) dX7_colourBits_31 rfl rfl rfl (nI_add k 1) rfl ?_
      refine ex_goto (q := 4) dX7_colourBits_34 rfl ?_
      exact ih (k + 1) (by omega)

theorem c_colourBits_0 {σ : qm_St} {T : tn_T} (hT : tn_ok T) (h : TR σ 9 18 T) : Ok qm_lay 2 mX7_colourBits [.ref 22] σ (some (.int (nI (tn_cb T)))) σ := by
  refine Ok.of (ls := [some (.ref 22), none, none]) (Nat.le_of_ble_eq_true rfl) rfl ?_
  refine ex_iconst (x := 0) dX7_colourBits_0 rfl rfl ?_
  refine ex_istore_n (ls' := [some (.ref 22), some (.int 0), none]) dX7_colourBits_1 rfl (Nat.le_of_ble_eq_true rfl) rfl rfl ?_
  refine ex_iconst (x := 0) dX7_colourBits_2 rfl rfl ?_
  refine ex_istore_n (ls' := [some (.ref 22), some (.int 0), some (.int 0)]) dX7_colourBits_3 rfl (Nat.le_of_ble_eq_true rfl) rfl rfl ?_
  exact l_colourBits_0 hT h (tn_L T) 0 (by omega)

theorem c_howMany_0 {σ : qm_St} {T : tn_T} (hT : tn_ok T) (h : TR σ 9 18 T) : Ok qm_lay 3 mX7_howManyColours [.ref 22] σ (some (.int (nI (tn_pc (tn_cb T))))) σ := by
  refine Ok.of (ls := [some (.ref 22)]) (Nat.le_of_ble_eq_true rfl) rfl ?_
  refine ex_aload_n dX7_howManyColours_0 rfl rfl ?_
  refine ex_callV (a := 22) (rest := []) dX7_howManyColours_1 rfl qp_6_53 rfl rfl rfl rfl rfl (Nat.le_of_ble_eq_true rfl) (c_colourBits_0 hT h) (Nat.le_of_ble_eq_true rfl) ?_
  show Ex qm_lay _ mX7_howManyColours 4 [some (.ref 22)] [.int (nI (tn_cb T))] σ _ _
  refine ex_callS (rest := []) dX7_howManyColours_4 rfl qp_6_57 rfl rfl rfl (Nat.le_of_ble_eq_true rfl) (c_bitCount _ (nI (tn_cb T))) (Nat.le_of_ble_eq_true rfl) ?_
  show Ex qm_lay _ mX7_howManyColours 7 [some (.ref 22)] [.int (jk_bc (nI (tn_cb T)))] σ _ _
  exact ex_iret dX7_howManyColours_7 rfl (by rw [jk_bc_nI _ (tn_cb_lt hT)]) rfl

set_option maxHeartbeats 2000000 in
theorem l_pairs_0 {σ : qm_St} {T : tn_T} (hT : tn_ok T) (h : TR σ 9 18 T) : ∀ (n : Nat) (k : Nat), k + n = tn_L T → Ex qm_lay 1 mX7_pairsBeside 4 [some (.ref 22), some (.int (nI (tn_sm (fun l => tn_pc (tn_b T l)) k))), some (.int (nI k))] [] σ (some (.int (nI (tn_pr T)))) σ := by
  have hL := hT.1
  intro n
  induction n with
  | zero =>
    intro k hk
    refine ex_iload_n dX7_pairsBeside_4 rfl rfl ?_
    refine ex_aload_n dX7_pairsBeside_5 rfl rfl ?_
    refine ex_getI (s := 9) (x := nI (tn_L T)) dX7_pairsBeside_6 rfl qp_6_27 rfl rfl (h.1) ?_
    refine ex_icmp_ge (q := 30) (q2 := 12) dX7_pairsBeside_9 rfl rfl (fun _ => ?_) (fun hh => absurd (nI_le (by omega) (by omega)) hh)
    refine ex_iload_n dX7_pairsBeside_30 rfl rfl ?_
    refine ex_iconst (x := 2) dX7_pairsBeside_31 rfl rfl ?_
    refine ex_idiv (z := nI (tn_sm (fun l => tn_pc (tn_b T l)) k / 2)) dX7_pairsBeside_32 rfl (by decide) (pk_div (by have := tn_sm_le (f := fun l => tn_pc (tn_b T l)) (m := 12) k (fun q hq => tn_pc_le _ (by have := tn_b_lt hT (show q < tn_L T by omega); omega)); omega) (by decide) (by decide)) ?_
    exact ex_iret dX7_pairsBeside_33 rfl (by rw [show k = tn_L T by omega]; rfl) rfl
  | succ n ih =>
    intro k hk
    refine ex_iload_n dX7_pairsBeside_4 rfl rfl ?_
    refine ex_aload_n dX7_pairsBeside_5 rfl rfl ?_
    refine ex_getI (s := 9) (x := nI (tn_L T)) dX7_pairsBeside_6 rfl qp_6_27 rfl rfl (h.1) ?_
    refine ex_icmp_ge (q := 30) (q2 := 12) dX7_pairsBeside_9 rfl rfl (fun hh => absurd hh (nI_ge (by omega) (by omega))) (fun _ => ?_)
    refine ex_iload_n dX7_pairsBeside_12 rfl rfl ?_
    refine ex_aload_n dX7_pairsBeside_13 rfl rfl ?_
    refine ex_getR (b := 25) dX7_pairsBeside_14 rfl qp_6_18 rfl rfl ?_
    refine ex_iload_n dX7_pairsBeside_17 rfl rfl ?_
    refine ex_iaload (k := k) (x := nI (tn_b T k)) dX7_pairsBeside_18 rfl rfl (rfl) (by omega) (by decide) (TR.bb h (by omega)) ?_
    refine ex_callS (rest := [.int (nI (tn_sm (fun l => tn_pc (tn_b T l)) k))]) dX7_pairsBeside_19 rfl qp_6_57 rfl rfl rfl (Nat.le_of_ble_eq_true rfl) (c_bitCount _ _) (Nat.le_of_ble_eq_true rfl) ?_
    show Ex qm_lay _ mX7_pairsBeside 22 [some (.ref 22), some (.int (nI (tn_sm (fun l => tn_pc (tn_b T l)) k))), some (.int (nI k))] [.int (jk_bc (nI (tn_b T k))), .int (nI (tn_sm (fun l => tn_pc (tn_b T l)) k))] σ _ _
    refine ex_iadd (z := nI (tn_sm (fun l => tn_pc (tn_b T l)) (k + 1))) dX7_pairsBeside_22 rfl (by rw [jk_bc_nI _ (by have := tn_b_lt hT (show k < tn_L T by omega); omega), nI_add, tn_sm]) ?_
    refine ex_istore_n (ls' := [some (.ref 22), some (.int (nI (tn_sm (fun l => tn_pc (tn_b T l)) (k + 1)))), some (.int (nI k))]) dX7_pairsBeside_23 rfl (Nat.le_of_ble_eq_true rfl) rfl rfl ?_
    refine ex_iinc (y := nI (k + 1)) (ls' := [some (.ref 22), some (.int (nI (tn_sm (fun l => tn_pc (tn_b T l)) (k + 1)))), some (.int (nI (k + 1)))]) dX7_pairsBeside_24 rfl rfl rfl (nI_add k 1) rfl ?_
    refine ex_goto (q := 4) dX7_pairsBeside_27 rfl ?_
    exact ih (k + 1) (by omega)

theorem c_pairs_0 {σ : qm_St} {T : tn_T} (hT : tn_ok T) (h : TR σ 9 18 T) : Ok qm_lay 1 mX7_pairsBeside [.ref 22] σ (some (.int (nI (tn_pr T)))) σ := by
  refine Ok.of (ls := [some (.ref 22), none, none]) (Nat.le_of_ble_eq_true rfl) rfl ?_
  refine ex_iconst (x := 0) dX7_pairsBeside_0 rfl rfl ?_
  refine ex_istore_n (ls' := [some (.ref 22), some (.int 0), none]) dX7_pairsBeside_1 rfl (Nat.le_of_ble_eq_true rfl) rfl rfl ?_
  refine ex_iconst (x := 0) dX7_pairsBeside_2 rfl rfl ?_
  refine ex_istore_n (ls' := [some (.ref 22), some (.int 0), some (.int 0)]) dX7_pairsBeside_3 rfl (Nat.le_of_ble_eq_true rfl) rfl rfl ?_
  exact l_pairs_0 hT h (tn_L T) 0 (by omega)

theorem c_hasLot_1 {σ : qm_St} {T : tn_T} (hT : tn_ok T) (h : TR σ 13 23 T) (l : Int32) : Ok qm_lay 0 mX7_hasLot [.ref 28, .int l] σ (some (.int (b2i (tn_has T l)))) σ := by
  refine Ok.of (ls := [some (.ref 28), some (.int l)]) (Nat.le_of_ble_eq_true rfl) rfl ?_
  refine ex_iload_n dX7_hasLot_0 rfl rfl ?_
  refine ex_if_lt (q := 16) (q2 := 4) dX7_hasLot_1 rfl rfl (fun h1 => ?_) (fun h1 => ?_)
  · refine ex_iconst (x := 0) dX7_hasLot_16 rfl rfl ?_
    exact ex_zret dX7_hasLot_17 rfl (by decide) (by first | exact b2i_t (decide_eq_true ⟨Int32.not_lt.mp h1, Int32.not_le.mp h9⟩) | exact b2i_f (decide_eq_false (fun z => Int32.not_lt.mpr z.1 h1)) | exact b2i_f (decide_eq_false (fun z => Int32.not_le.mpr z.2 h9))) rfl
  · refine ex_iload_n dX7_hasLot_4 rfl rfl ?_
    refine ex_aload_n dX7_hasLot_5 rfl rfl ?_
    refine ex_getI (s := 13) (x := nI (tn_L T)) dX7_hasLot_6 rfl qp_6_27 rfl rfl (h.1) ?_
    refine ex_icmp_ge (q := 16) (q2 := 12) dX7_hasLot_9 rfl rfl (fun h9 => ?_) (fun h9 => ?_)
    · refine ex_iconst (x := 0) dX7_hasLot_16 rfl rfl ?_
      exact ex_zret dX7_hasLot_17 rfl (by decide) (by first | exact b2i_t (decide_eq_true ⟨Int32.not_lt.mp h1, Int32.not_le.mp h9⟩) | exact b2i_f (decide_eq_false (fun z => Int32.not_lt.mpr z.1 h1)) | exact b2i_f (decide_eq_false (fun z => Int32.not_le.mpr z.2 h9))) rfl
    · refine ex_iconst (x := 1) dX7_hasLot_12 rfl rfl ?_
      refine ex_goto (q := 17) dX7_hasLot_13 rfl ?_
      exact ex_zret dX7_hasLot_17 rfl (by decide) (by first | exact b2i_t (decide_eq_true ⟨Int32.not_lt.mp h1, Int32.not_le.mp h9⟩) | exact b2i_f (decide_eq_false (fun z => Int32.not_lt.mpr z.1 h1)) | exact b2i_f (decide_eq_false (fun z => Int32.not_le.mpr z.2 h9))) rfl

theorem c_isBuilt_1 {σ : qm_St} {T : tn_T} (hT : tn_ok T) (h : TR σ 13 23 T) (l : Int32) : Ok qm_lay 1 mX7_isBuilt [.ref 28, .int l] σ (some (.int (b2i (tn_blt T l)))) σ := by
  refine Ok.of (ls := [some (.ref 28), some (.int l)]) (Nat.le_of_ble_eq_true rfl) rfl ?_
  refine ex_aload_n dX7_isBuilt_0 rfl rfl ?_
  refine ex_iload_n dX7_isBuilt_1 rfl rfl ?_
  refine ex_callV (a := 28) (rest := []) dX7_isBuilt_2 rfl qp_6_46 rfl rfl rfl rfl rfl (Nat.le_of_ble_eq_true rfl) (c_hasLot_1 hT h l) (Nat.le_of_ble_eq_true rfl) ?_
  show Ex qm_lay _ mX7_isBuilt 5 [some (.ref 28), some (.int l)] [.int (b2i (tn_has T l))] σ _ _
  refine ex_if_eq (q := 23) (q2 := 8) dX7_isBuilt_5 rfl rfl (fun h5 => ?_) (fun h5 => ?_)
  · refine ex_iconst (x := 0) dX7_isBuilt_23 rfl rfl ?_
    exact ex_zret dX7_isBuilt_24 rfl (by decide) (by first | exact b2i_f (by rw [tn_blt, b2i_0.mp h5]; rfl) | exact b2i_t (by rw [hlk, tn_blt_nI hT hk]; exact b2i_n0.mp h16) | exact b2i_f (by rw [hlk, tn_blt_nI hT hk]; exact b2i_0.mp h16)) rfl
  · obtain ⟨k, hk, hlk⟩ := tn_has_of hT (b2i_n0.mp h5)
    have hL := hT.1
    have hu := tn_u_lt hT
    refine ex_aload_n dX7_isBuilt_8 rfl rfl ?_
    refine ex_getI (s := 16) (x := nI (tn_u T)) dX7_isBuilt_9 rfl qp_6_37 rfl rfl (h.2.2.2.1) ?_
    refine ex_iload_n dX7_isBuilt_12 rfl rfl ?_
    refine ex_ishr (z := (nI (tn_u T)) >>> (l &&& 31)) dX7_isBuilt_13 rfl (rfl) ?_
    refine ex_iconst (x := 1) dX7_isBuilt_14 rfl rfl ?_
    refine ex_iand (z := b2i ((tn_u T).testBit k)) dX7_isBuilt_15 rfl (by rw [hlk]; exact nI_bit (by omega) (by omega)) ?_
    refine ex_if_eq (q := 23) (q2 := 19) dX7_isBuilt_16 rfl rfl (fun h16 => ?_) (fun h16 => ?_)
    · refine ex_iconst (x := 0) dX7_isBuilt_23 rfl rfl ?_
      exact ex_zret dX7_isBuilt_24 rfl (by decide) (by first | exact b2i_f (by rw [tn_blt, b2i_0.mp h5]; rfl) | exact b2i_t (by rw [hlk, tn_blt_nI hT hk]; exact b2i_n0.mp h16) | exact b2i_f (by rw [hlk, tn_blt_nI hT hk]; exact b2i_0.mp h16)) rfl
    · refine ex_iconst (x := 1) dX7_isBuilt_19 rfl rfl ?_
      refine ex_goto (q := 24) dX7_isBuilt_20 rfl ?_
      exact ex_zret dX7_isBuilt_24 rfl (by decide) (by first | exact b2i_f (by rw [tn_blt, b2i_0.mp h5]; rfl) | exact b2i_t (by rw [hlk, tn_blt_nI hT hk]; exact b2i_n0.mp h16) | exact b2i_f (by rw [hlk, tn_blt_nI hT hk]; exact b2i_0.mp h16)) rfl

theorem c_hasTwoLots_1 {σ : qm_St} {T : tn_T} (hT : tn_ok T) (h : TR σ 13 23 T) (x y : Int32) : Ok qm_lay 1 mX7_hasTwoLots [.ref 28, .int x, .int y] σ (some (.int (b2i (tn_two T x y)))) σ := by
  refine Ok.of (ls := [some (.ref 28), some (.int x), some (.int y)]) (Nat.le_of_ble_eq_true rfl) rfl ?_
  refine ex_aload_n dX7_hasTwoLots_0 rfl rfl ?_
  refine ex_iload_n dX7_hasTwoLots_1 rfl rfl ?_
  refine ex_callV (a := 28) (rest := []) dX7_hasTwoLots_2 rfl qp_6_46 rfl rfl rfl rfl rfl (Nat.le_of_ble_eq_true rfl) (c_hasLot_1 hT h x) (Nat.le_of_ble_eq_true rfl) ?_
  show Ex qm_lay _ mX7_hasTwoLots 5 [some (.ref 28), some (.int x), some (.int y)] [.int (b2i (tn_has T x))] σ _ _
  refine ex_if_eq (q := 25) (q2 := 8) dX7_hasTwoLots_5 rfl rfl (fun h5 => ?_) (fun h5 => ?_)
  · refine ex_iconst (x := 0) dX7_hasTwoLots_25 rfl rfl ?_
    exact ex_zret dX7_hasTwoLots_26 rfl (by decide) (by first | exact b2i_f (by rw [tn_two, b2i_0.mp h5]; rfl) | exact b2i_f (by rw [tn_two, b2i_0.mp h13, Bool.and_false]; rfl) | exact b2i_f (by rw [tn_two, decide_eq_false (fun z => z h18), Bool.and_false]) | exact b2i_t (by rw [tn_two, b2i_n0.mp h5, b2i_n0.mp h13, decide_eq_true h18]; rfl)) rfl
  · refine ex_aload_n dX7_hasTwoLots_8 rfl rfl ?_
    refine ex_iload_n dX7_hasTwoLots_9 rfl rfl ?_
    refine ex_callV (a := 28) (rest := []) dX7_hasTwoLots_10 rfl qp_6_46 rfl rfl rfl rfl rfl (Nat.le_of_ble_eq_true rfl) (c_hasLot_1 hT h y) (Nat.le_of_ble_eq_true rfl) ?_
    show Ex qm_lay _ mX7_hasTwoLots 13 [some (.ref 28), some (.int x), some (.int y)] [.int (b2i (tn_has T y))] σ _ _
    refine ex_if_eq (q := 25) (q2 := 16) dX7_hasTwoLots_13 rfl rfl (fun h13 => ?_) (fun h13 => ?_)
    · refine ex_iconst (x := 0) dX7_hasTwoLots_25 rfl rfl ?_
      exact ex_zret dX7_hasTwoLots_26 rfl (by decide) (by first | exact b2i_f (by rw [tn_two, b2i_0.mp h5]; rfl) | exact b2i_f (by rw [tn_two, b2i_0.mp h13, Bool.and_false]; rfl) | exact b2i_f (by rw [tn_two, decide_eq_false (fun z => z h18), Bool.and_false]) | exact b2i_t (by rw [tn_two, b2i_n0.mp h5, b2i_n0.mp h13, decide_eq_true h18]; rfl)) rfl
    · refine ex_iload_n dX7_hasTwoLots_16 rfl rfl ?_
      refine ex_iload_n dX7_hasTwoLots_17 rfl rfl ?_
      refine ex_icmp_eq (q := 25) (q2 := 21) dX7_hasTwoLots_18 rfl rfl (fun h18 => ?_) (fun h18 => ?_)
      · refine ex_iconst (x := 0) dX7_hasTwoLots_25 rfl rfl ?_
        exact ex_zret dX7_hasTwoLots_26 rfl (by decide) (by first | exact b2i_f (by rw [tn_two, b2i_0.mp h5]; rfl) | exact b2i_f (by rw [tn_two, b2i_0.mp h13, Bool.and_false]; rfl) | exact b2i_f (by rw [tn_two, decide_eq_false (fun z => z h18), Bool.and_false]) | exact b2i_t (by rw [tn_two, b2i_n0.mp h5, b2i_n0.mp h13, decide_eq_true h18]; rfl)) rfl
      · refine ex_iconst (x := 1) dX7_hasTwoLots_21 rfl rfl ?_
        refine ex_goto (q := 26) dX7_hasTwoLots_22 rfl ?_
        exact ex_zret dX7_hasTwoLots_26 rfl (by decide) (by first | exact b2i_f (by rw [tn_two, b2i_0.mp h5]; rfl) | exact b2i_f (by rw [tn_two, b2i_0.mp h13, Bool.and_false]; rfl) | exact b2i_f (by rw [tn_two, decide_eq_false (fun z => z h18), Bool.and_false]) | exact b2i_t (by rw [tn_two, b2i_n0.mp h5, b2i_n0.mp h13, decide_eq_true h18]; rfl)) rfl

theorem c_areBeside_1 {σ : qm_St} {T : tn_T} (hT : tn_ok T) (h : TR σ 13 23 T) {x y : Nat} (hx : x < tn_L T) (hy : y < tn_L T) : Ok qm_lay 0 mX7_areBeside [.ref 28, .int (nI x), .int (nI y)] σ (some (.int (b2i ((tn_b T x).testBit y)))) σ := by
  refine Ok.of (ls := [some (.ref 28), some (.int (nI x)), some (.int (nI y))]) (Nat.le_of_ble_eq_true rfl) rfl ?_
  have hL := hT.1
  have hbx := tn_b_lt hT hx
  refine ex_aload_n dX7_areBeside_0 rfl rfl ?_
  refine ex_getR (b := 31) dX7_areBeside_1 rfl qp_6_18 rfl rfl ?_
  refine ex_iload_n dX7_areBeside_4 rfl rfl ?_
  refine ex_iaload (k := x) (x := nI (tn_b T x)) dX7_areBeside_5 rfl rfl (rfl) (by omega) (by decide) (TR.bb h (by omega)) ?_
  refine ex_iload_n dX7_areBeside_6 rfl rfl ?_
  refine ex_ishr (z := (nI (tn_b T x)) >>> ((nI y) &&& 31)) dX7_areBeside_7 rfl (rfl) ?_
  refine ex_iconst (x := 1) dX7_areBeside_8 rfl rfl ?_
  refine ex_iand (z := b2i ((tn_b T x).testBit y)) dX7_areBeside_9 rfl (nI_bit (by omega) (by omega)) ?_
  refine ex_if_eq (q := 17) (q2 := 13) dX7_areBeside_10 rfl rfl (fun h10 => ?_) (fun h10 => ?_)
  · refine ex_iconst (x := 0) dX7_areBeside_17 rfl rfl ?_
    exact ex_zret dX7_areBeside_18 rfl (by decide) (by first | exact b2i_f (b2i_0.mp h10) | exact b2i_t (b2i_n0.mp h10)) rfl
  · refine ex_iconst (x := 1) dX7_areBeside_13 rfl rfl ?_
    refine ex_goto (q := 18) dX7_areBeside_14 rfl ?_
    exact ex_zret dX7_areBeside_18 rfl (by decide) (by first | exact b2i_f (b2i_0.mp h10) | exact b2i_t (b2i_n0.mp h10)) rfl

theorem c_colourOf_1 {σ : qm_St} {T : tn_T} (hT : tn_ok T) (h : TR σ 13 23 T) (l : Int32) : Ok qm_lay 2 mX7_colourOf [.ref 28, .int l] σ (some (.int (tn_col T l))) σ := by
  refine Ok.of (ls := [some (.ref 28), some (.int l)]) (Nat.le_of_ble_eq_true rfl) rfl ?_
  refine ex_aload_n dX7_colourOf_0 rfl rfl ?_
  refine ex_iload_n dX7_colourOf_1 rfl rfl ?_
  refine ex_callV (a := 28) (rest := []) dX7_colourOf_2 rfl qp_6_50 rfl rfl rfl rfl rfl (Nat.le_of_ble_eq_true rfl) (c_isBuilt_1 hT h l) (Nat.le_of_ble_eq_true rfl) ?_
  show Ex qm_lay _ mX7_colourOf 5 [some (.ref 28), some (.int l)] [.int (b2i (tn_blt T l))] σ _ _
  refine ex_if_eq (q := 17) (q2 := 8) dX7_colourOf_5 rfl rfl (fun h5 => ?_) (fun h5 => ?_)
  · refine ex_iconst (x := (-1)) dX7_colourOf_17 rfl rfl ?_
    exact ex_iret dX7_colourOf_18 rfl (by first | (rw [tn_col, b2i_0.mp h5]; rfl) | (rw [tn_col, hbl, hlk, nI_clamp (by omega)]; rfl)) rfl
  · have hbl := b2i_n0.mp h5
    obtain ⟨k, hk, hlk⟩ := tn_has_of hT (by rw [tn_blt, Bool.and_eq_true] at hbl; exact hbl.1)
    have hL := hT.1
    have hbk : (tn_u T).testBit k = true := by rw [← tn_blt_nI hT hk, ← hlk]; exact hbl
    refine ex_aload_n dX7_colourOf_8 rfl rfl ?_
    refine ex_getR (b := 32) dX7_colourOf_9 rfl qp_6_21 rfl rfl ?_
    refine ex_iload_n dX7_colourOf_12 rfl rfl ?_
    refine ex_iaload (k := k) (x := nI (tn_c T k)) dX7_colourOf_13 rfl rfl (hlk) (by omega) (by decide) (TR.cc h hk hbk) ?_
    refine ex_goto (q := 18) dX7_colourOf_14 rfl ?_
    exact ex_iret dX7_colourOf_18 rfl (by first | (rw [tn_col, b2i_0.mp h5]; rfl) | (rw [tn_col, hbl, hlk, nI_clamp (by omega)]; rfl)) rfl

theorem c_unbuiltBits_1 {σ : qm_St} {T : tn_T} (hT : tn_ok T) (h : TR σ 13 23 T) : Ok qm_lay 0 mX7_unbuiltBits [.ref 28] σ (some (.int (nI (tn_nb T)))) σ := by
  refine Ok.of (ls := [some (.ref 28)]) (Nat.le_of_ble_eq_true rfl) rfl ?_
  refine ex_iconst (x := 1) dX7_unbuiltBits_0 rfl rfl ?_
  refine ex_aload_n dX7_unbuiltBits_1 rfl rfl ?_
  refine ex_getI (s := 13) (x := nI (tn_L T)) dX7_unbuiltBits_2 rfl qp_6_27 rfl rfl (h.1) ?_
  refine ex_ishl (z := 1 <<< ((nI (tn_L T)) &&& 31)) dX7_unbuiltBits_5 rfl (rfl) ?_
  refine ex_iconst (x := 1) dX7_unbuiltBits_6 rfl rfl ?_
  refine ex_isub (z := (1 <<< ((nI (tn_L T)) &&& 31)) - 1) dX7_unbuiltBits_7 rfl (rfl) ?_
  refine ex_aload_n dX7_unbuiltBits_8 rfl rfl ?_
  refine ex_getI (s := 16) (x := nI (tn_u T)) dX7_unbuiltBits_9 rfl qp_6_37 rfl rfl (h.2.2.2.1) ?_
  refine ex_iconst (x := (-1)) dX7_unbuiltBits_12 rfl rfl ?_
  refine ex_ixor (z := (nI (tn_u T)) ^^^ ((-1))) dX7_unbuiltBits_13 rfl (rfl) ?_
  refine ex_iand (z := ((1 <<< ((nI (tn_L T)) &&& 31)) - 1) &&& ((nI (tn_u T)) ^^^ ((-1)))) dX7_unbuiltBits_14 rfl (rfl) ?_
  exact ex_iret dX7_unbuiltBits_15 rfl (congrArg (fun z => some (Value.int z)) (tn_nb_dec _ (by have := hT.1; omega) _ (tn_u_lt hT) hT.2.2.1)) rfl

set_option maxHeartbeats 2000000 in
theorem l_colourBits_1 {σ : qm_St} {T : tn_T} (hT : tn_ok T) (h : TR σ 13 23 T) : ∀ (n : Nat) (k : Nat), k + n = tn_L T → Ex qm_lay 2 mX7_colourBits 4 [some (.ref 28), some (.int (nI (tn_fo (tn_cf T) k))), some (.int (nI k))] [] σ (some (.int (nI (tn_cb T)))) σ := by
  have hL := hT.1
  intro n
  induction n with
  | zero =>
    intro k hk
    refine ex_iload_n dX7_colourBits_4 rfl rfl ?_
    refine ex_aload_n dX7_colourBits_5 rfl rfl ?_
    refine ex_getI (s := 13) (x := nI (tn_L T)) dX7_colourBits_6 rfl qp_6_27 rfl rfl (h.1) ?_
    refine ex_icmp_ge (q := 37) (q2 := 12) dX7_colourBits_9 rfl rfl (fun _ => ?_) (fun hh => absurd (nI_le (by omega) (by omega)) hh)
    refine ex_iload_n dX7_colourBits_37 rfl rfl ?_
    exact ex_iret dX7_colourBits_38 rfl (by rw [show k = tn_L T by omega]; rfl) rfl
  | succ n ih =>
    intro k hk
    refine ex_iload_n dX7_colourBits_4 rfl rfl ?_
    refine ex_aload_n dX7_colourBits_5 rfl rfl ?_
    refine ex_getI (s := 13) (x := nI (tn_L T)) dX7_colourBits_6 rfl qp_6_27 rfl rfl (h.1) ?_
    refine ex_icmp_ge (q := 37) (q2 := 12) dX7_colourBits_9 rfl rfl (fun hh => absurd hh (nI_ge (by omega) (by omega))) (fun _ => ?_)
    refine ex_aload_n dX7_colourBits_12 rfl rfl ?_
    refine ex_iload_n dX7_colourBits_13 rfl rfl ?_
    refine ex_callV (a := 28) (rest := []) dX7_colourBits_14 rfl qp_6_50 rfl rfl rfl rfl rfl (Nat.le_of_ble_eq_true rfl) (c_isBuilt_1 hT h (nI k)) (Nat.le_of_ble_eq_true rfl) ?_
    show Ex qm_lay _ mX7_colourBits 17 [some (.ref 28), some (.int (nI (tn_fo (tn_cf T) k))), some (.int (nI k))] [.int (b2i (tn_blt T (nI k)))] σ _ _
    refine ex_if_eq (q := 31) (q2 := 20) dX7_colourBits_17 rfl rfl (fun h17 => ?_) (fun h17 => ?_)
    · have hbk : (tn_u T).testBit k = false := by rw [← tn_blt_nI hT (by omega : k < tn_L T)]; exact b2i_0.mp h17
      refine ex_iinc (y := nI (k + 1)) (ls' := [some (.ref 28), some (.int (nI (tn_fo (tn_cf T) k))), some (.int (nI (k + 1)))]) dX7_colourBits_31 rfl rfl rfl (nI_add k 1) rfl ?_
      refine ex_goto (q := 4) dX7_colourBits_34 rfl ?_
      exact Ex.of_ls (by rw [tn_fo_0 (f := tn_cf T) (n := k) (by rw [tn_cf, if_neg (by rw [hbk]; decide)])]) (ih (k + 1) (by omega))
    · have hbk : (tn_u T).testBit k = true := by rw [← tn_blt_nI hT (by omega : k < tn_L T)]; exact b2i_n0.mp h17
      have hc11 := (hT.2.2.2 k (by omega)).2.2.2.2.1 hbk
      refine ex_iload_n dX7_colourBits_20 rfl rfl ?_
      refine ex_iconst (x := 1) dX7_colourBits_21 rfl rfl ?_
      refine ex_aload_n dX7_colourBits_22 rfl rfl ?_
      refine ex_getR (b := 32) dX7_colourBits_23 rfl qp_6_21 rfl rfl ?_
      refine ex_iload_n dX7_colourBits_26 rfl rfl ?_
      refine ex_iaload (k := k) (x := nI (tn_c T k)) dX7_colourBits_27 rfl rfl (rfl) (by omega) (by decide) (TR.cc h (by omega) hbk) ?_
      refine ex_ishl (z := nI (2 ^ tn_c T k)) dX7_colourBits_28 rfl (nI_1shl (by omega)) ?_
      refine ex_ior (z := nI (tn_fo (tn_cf T) (k + 1))) dX7_colourBits_29 rfl (by rw [nI_or, tn_fo, tn_cf, if_pos hbk]) ?_
      refine ex_istore_n (ls' := [some (.ref 28), some (.int (nI (tn_fo (tn_cf T) (k + 1)))), some (.int (nI k))]) dX7_colourBits_30 rfl (Nat.le_of_ble_eq_true rfl) rfl rfl ?_
      refine ex_iinc (y := nI (k + 1)) (ls' := [some (.ref 28), some (.int (nI (tn_fo (tn_cf T) (k + 1)))), some (.int (nI (k + 1)))]) dX7_colourBits_31 rfl rfl rfl (nI_add k 1) rfl ?_
      refine ex_goto (q := 4) dX7_colourBits_34 rfl ?_
      exact ih (k + 1) (by omega)

theorem c_colourBits_1 {σ : qm_St} {T : tn_T} (hT : tn_ok T) (h : TR σ 13 23 T) : Ok qm_lay 2 mX7_colourBits [.ref 28] σ (some (.int (nI (tn_cb T)))) σ := by
  refine Ok.of (ls := [some (.ref 28), none, none]) (Nat.le_of_ble_eq_true rfl) rfl ?_
  refine ex_iconst (x := 0) dX7_colourBits_0 rfl rfl ?_
  refine ex_istore_n (ls' := [some (.ref 28), some (.int 0), none]) dX7_colourBits_1 rfl (Nat.le_of_ble_eq_true rfl) rfl rfl ?_
  refine ex_iconst (x := 0) dX7_colourBits_2 rfl rfl ?_
  refine ex_istore_n (ls' := [some (.ref 28), some (.int 0), some (.int 0)]) dX7_colourBits_3 rfl (Nat.le_of_ble_eq_true rfl) rfl rfl ?_
  exact l_colourBits_1 hT h (tn_L T) 0 (by omega)

theorem c_howMany_1 {σ : qm_St} {T : tn_T} (hT : tn_ok T) (h : TR σ 13 23 T) : Ok qm_lay 3 mX7_howManyColours [.ref 28] σ (some (.int (nI (tn_pc (tn_cb T))))) σ := by
  refine Ok.of (ls := [some (.ref 28)]) (Nat.le_of_ble_eq_true rfl) rfl ?_
  refine ex_aload_n dX7_howManyColours_0 rfl rfl ?_
  refine ex_callV (a := 28) (rest := []) dX7_howManyColours_1 rfl qp_6_53 rfl rfl rfl rfl rfl (Nat.le_of_ble_eq_true rfl) (c_colourBits_1 hT h) (Nat.le_of_ble_eq_true rfl) ?_
  show Ex qm_lay _ mX7_howManyColours 4 [some (.ref 28)] [.int (nI (tn_cb T))] σ _ _
  refine ex_callS (rest := []) dX7_howManyColours_4 rfl qp_6_57 rfl rfl rfl (Nat.le_of_ble_eq_true rfl) (c_bitCount _ (nI (tn_cb T))) (Nat.le_of_ble_eq_true rfl) ?_
  show Ex qm_lay _ mX7_howManyColours 7 [some (.ref 28)] [.int (jk_bc (nI (tn_cb T)))] σ _ _
  exact ex_iret dX7_howManyColours_7 rfl (by rw [jk_bc_nI _ (tn_cb_lt hT)]) rfl

