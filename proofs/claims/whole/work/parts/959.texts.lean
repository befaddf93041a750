/-! ===== the texts' constructor behind its allocations ===== -/
def qn_w0 : List Nat := [119, 111, 114, 116, 104, 32, 50, 48, 32, 45, 32, 99, 111, 108, 111, 117, 114, 32, 42, 32, 52, 32, 59, 32, 119, 97, 105, 116, 115, 32, 111, 114, 100, 101, 114, 32, 59, 32, 109, 111, 118, 101, 115, 32, 49, 32, 59]
def qn_t0 : gt_T := (47, fun i => qn_w0.getD i 0)
theorem qn_s0 : qm_sref 1000 = some (qm_str.getD 0 []) ∧ (qm_str.getD 0 []).length = 47 := by decide +kernel
theorem qn_s1 : ∀ i, i < 47 → (qm_str.getD 0 []).getD i 0 = nI (qn_w0.getD i 0) ∧ qn_w0.getD i 0 < 256 := by decide +kernel
theorem qn_ok0 : gt_ok qn_t0 := ⟨by decide, fun i hi => (qn_s1 i hi).2⟩
set_option maxRecDepth 100000 in
theorem qn_full0 : full qn_t0 = .inr (5, 6, [20, 10000, 4, 20042, 20045, 10003, 1]) := by decide +kernel
def mX6_init : qm_MI := (yX6_init, cX6_init, 2, none, 5, 0)
set_option maxRecDepth 8000 in
set_option maxHeartbeats 2000000 in
theorem l_txi : ∀ (r k : Nat) (σ1 : qm_St), k + r = 47 → PC σ1 ((k, fun i => qn_w0.getD i 0) : gt_T) → ∃ σ', (∀ v τ, Ex (qm_layT ++ []) 52 mX6_init 91 [some (.ref 4), some (.int 47)] [] σ' v τ → Ex (qm_layT ++ []) 52 mX6_init 66 [some (.ref 4), some (.int (nI k))] [] σ1 v τ) ∧ PC σ' qn_t0 ∧ sm σ1 σ' 8 9 3 4 := by
  have hsr := qn_s0.1
  have hlen := qn_s0.2
  intro r
  induction r with
  | zero =>
    intro k σ1 hk h
    have ek : k = 47 := by omega
    subst ek
    refine ⟨σ1, fun v τ hz => ?_, h, sm.rf _ _ _ _ _⟩
    refine ex_iload_n dX6_init_66 rfl rfl ?_
    refine ex_ldcS (j := 0) dX6_init_67 rfl qp_5_36 ?_
    refine ex_slen (x := 47) dX6_init_69 rfl qp_5_38 (hsr) (Nat.le_of_ble_eq_true rfl) (by rw [hlen]; rfl) ?_
    refine ex_icmp_ge (q := 91) (q2 := 75) dX6_init_72 rfl rfl (fun _ => ?_) (fun hh => absurd (by decide) hh)
    exact hz
  | succ r ih =>
    intro k σ1 hk h
    have hs1 : sm σ1 (qm_wI (qm_wF σ1 3 k (nI (qn_w0.getD k 0))) 8 (nI (k + 1))) 8 9 3 4 := ((sm.rf σ1 8 9 3 4).wF _ (by omega)).wI _ (by omega)
    have h1 : PC (qm_wI (qm_wF σ1 3 k (nI (qn_w0.getD k 0))) 8 (nI (k + 1))) ((k + 1, fun i => qn_w0.getD i 0) : gt_T) := by
      refine ⟨by rw [rI_wI, if_pos rfl], fun i hi => ?_⟩
      have hi2 : i < k + 1 := hi
      rw [rF_wI]
      by_cases e : i = k
      · rw [e, rF_eq]
      · rw [rF_ne (Or.inr e)]
        exact h.2 i (show i < k by omega)
    obtain ⟨σ', hE, hP, hs⟩ := ih (k + 1) _ (by omega) h1
    have hA := c_addByte (ext := []) h.1 (show k < 160 by omega) (qn_w0.getD k 0)
    refine ⟨σ', fun v τ hz => ?_, hP, hs1.tr hs⟩
    have hE2 := hE v τ hz
    refine ex_iload_n dX6_init_66 rfl rfl ?_
    refine ex_ldcS (j := 0) dX6_init_67 rfl qp_5_36 ?_
    refine ex_slen (x := 47) dX6_init_69 rfl qp_5_38 (hsr) (Nat.le_of_ble_eq_true rfl) (by rw [hlen]; rfl) ?_
    refine ex_icmp_ge (q := 91) (q2 := 75) dX6_init_72 rfl rfl (fun hh => absurd hh (nI_ge (a := k) (b := 47) (by omega) (by omega))) (fun _ => ?_)
    refine ex_aload_n dX6_init_75 rfl rfl ?_
    refine ex_ldcS (j := 0) dX6_init_76 rfl qp_5_36 ?_
    refine ex_iload_n dX6_init_78 rfl rfl ?_
    refine ex_scha (m := k) (x := nI (qn_w0.getD k 0)) dX6_init_79 rfl qp_5_44 (hsr) (rfl) (by rw [hlen]; omega) (by rw [hlen]; decide) (Nat.le_of_ble_eq_true rfl) ((qn_s1 k (by omega)).1) ?_
    refine ex_callV (a := 4) (rest := []) dX6_init_82 rfl qp_5_48 rfl rfl rfl rfl rfl (Nat.le_of_ble_eq_true rfl) (hA) (Nat.le_of_ble_eq_true rfl) ?_
    show Ex (qm_layT ++ []) _ mX6_init 85 [some (.ref 4), some (.int (nI k))] [] (qm_wI (qm_wF σ1 3 k (nI (qn_w0.getD k 0))) 8 (nI (k + 1))) _ _
    refine ex_iinc (y := nI (k + 1)) (ls' := [some (.ref 4), some (.int (nI (k + 1)))]) dX6_init_85 rfl rfl rfl (nI_add k 1) rfl ?_
    refine ex_goto (q := 66) dX6_init_88 rfl ?_
    exact hE2

