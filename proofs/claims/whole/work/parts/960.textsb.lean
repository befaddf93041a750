/-! ===== the texts' constructor: its end, the first text laid ===== -/
def qn_c0 : List Nat := [20, 10000, 4, 20042, 20045, 10003, 1]
set_option maxRecDepth 8000 in
set_option maxHeartbeats 2000000 in
theorem qn_txt2 {t : gt_T} {a b : Nat} {c : List Nat} (hk : gt_ok t) (hf : full t = .inr (a, b, c)) {σ2 : qm_St} (hc : c.length ≤ 160) (hP : PC σ2 t) (h7 : qm_rI σ2 7 = nI 0) : ∃ τ, Ex (qm_layT ++ []) 52 mX6_init 91 [some (.ref 4), some (.int 47)] [] σ2 none τ ∧ qm_rI τ 7 = 1 ∧ qm_rI τ 8 = 0 ∧ (∀ p, p < 4 → qm_rF τ 12 p = nI (fst_ a b c p)) ∧ (∀ k, k < c.length → qm_rF τ 6 k = nI (c.getD k 0)) ∧ sm σ2 τ 0 9 0 18 := by
  obtain ⟨σ3, hs3, hO⟩ := c_readTape hk (ext := []) hP h7 (by decide)
  rw [hf] at hO
  obtain ⟨hO, f1, f2⟩ := hO
  have hb : sm σ3 (qm_wI (qm_wR (qm_wR (qm_wI σ3 8 0) (6 + 0) (va_cpy (σ3.2 0) (σ3.2 (6 + 0)) 0 0 160)) (12 + 0) (va_cpy ((qm_wR (qm_wI σ3 8 0) (6 + 0) (va_cpy (σ3.2 0) (σ3.2 (6 + 0)) 0 0 160)).2 1) ((qm_wR (qm_wI σ3 8 0) (6 + 0) (va_cpy (σ3.2 0) (σ3.2 (6 + 0)) 0 0 160)).2 (12 + 0)) 0 0 4)) 7 (nI (0 + 1))) 7 9 6 18 := ((((sm.rf σ3 7 9 6 18).wI (s := 8) _ (by omega)).wR (j := 6 + 0) _ (by omega)).wR (j := 12 + 0) _ (by omega)).wI (s := 7) _ (by omega)
  refine ⟨(qm_wI (qm_wR (qm_wR (qm_wI σ3 8 0) (6 + 0) (va_cpy (σ3.2 0) (σ3.2 (6 + 0)) 0 0 160)) (12 + 0) (va_cpy ((qm_wR (qm_wI σ3 8 0) (6 + 0) (va_cpy (σ3.2 0) (σ3.2 (6 + 0)) 0 0 160)).2 1) ((qm_wR (qm_wI σ3 8 0) (6 + 0) (va_cpy (σ3.2 0) (σ3.2 (6 + 0)) 0 0 160)).2 (12 + 0)) 0 0 4)) 7 (nI (0 + 1))), ?_, rfl, rfl, fun p hp => ?_, fun k hk => ?_, (hs3.wid (by omega) (by omega)).tr (hb.wid (by omega) (by omega))⟩
  · refine ex_aload_n dX6_init_91 rfl rfl ?_
    refine ex_callV (a := 4) (rest := []) dX6_init_92 rfl qp_5_52 rfl rfl rfl rfl rfl (Nat.le_of_ble_eq_true rfl) (hO) (Nat.le_of_ble_eq_true rfl) ?_
    show Ex (qm_layT ++ []) _ mX6_init 95 [some (.ref 4), some (.int 47)] [.int (-1)] (qm_wI (qm_wR (qm_wR (qm_wI σ3 8 0) (6 + 0) (va_cpy (σ3.2 0) (σ3.2 (6 + 0)) 0 0 160)) (12 + 0) (va_cpy ((qm_wR (qm_wI σ3 8 0) (6 + 0) (va_cpy (σ3.2 0) (σ3.2 (6 + 0)) 0 0 160)).2 1) ((qm_wR (qm_wI σ3 8 0) (6 + 0) (va_cpy (σ3.2 0) (σ3.2 (6 + 0)) 0 0 160)).2 (12 + 0)) 0 0 4)) 7 (nI (0 + 1))) _ _
    refine ex_pop dX6_init_95 rfl rfl ?_
    exact ex_vret dX6_init_96 rfl rfl rfl
  · show qm_rF (qm_wI (qm_wR (qm_wR (qm_wI σ3 8 0) (6 + 0) (va_cpy (σ3.2 0) (σ3.2 (6 + 0)) 0 0 160)) (12 + 0) (va_cpy ((qm_wR (qm_wI σ3 8 0) (6 + 0) (va_cpy (σ3.2 0) (σ3.2 (6 + 0)) 0 0 160)).2 1) ((qm_wR (qm_wI σ3 8 0) (6 + 0) (va_cpy (σ3.2 0) (σ3.2 (6 + 0)) 0 0 160)).2 (12 + 0)) 0 0 4)) 7 (nI (0 + 1))) (12 + 0) p = _
    rw [rF_wI, rF_wR, if_pos rfl, pk_cpy_in (by omega) (by omega), Nat.zero_add, Nat.sub_zero]
    refine Eq.trans ?_ (f1 p hp)
    show qm_rF (qm_wR (qm_wI σ3 8 0) (6 + 0) (va_cpy (σ3.2 0) (σ3.2 (6 + 0)) 0 0 160)) 1 p = qm_rF σ3 1 p
    rw [rF_wR, if_neg (by omega)]; rfl
  · show qm_rF (qm_wI (qm_wR (qm_wR (qm_wI σ3 8 0) (6 + 0) (va_cpy (σ3.2 0) (σ3.2 (6 + 0)) 0 0 160)) (12 + 0) (va_cpy ((qm_wR (qm_wI σ3 8 0) (6 + 0) (va_cpy (σ3.2 0) (σ3.2 (6 + 0)) 0 0 160)).2 1) ((qm_wR (qm_wI σ3 8 0) (6 + 0) (va_cpy (σ3.2 0) (σ3.2 (6 + 0)) 0 0 160)).2 (12 + 0)) 0 0 4)) 7 (nI (0 + 1))) (6 + 0) k = _
    rw [rF_wI, rF_wR, if_neg (by omega), rF_wR, if_pos rfl, pk_cpy_in (by omega) (by omega), Nat.zero_add, Nat.sub_zero]
    exact f2 k hk

set_option maxRecDepth 8000 in
set_option maxHeartbeats 2000000 in
theorem qn_txt {σ : qm_St} (h7 : qm_rI σ 7 = 0) (h8 : qm_rI σ 8 = 0) : ∃ τ, Ex (qm_layT ++ []) 52 mX6_init 64 [some (.ref 4), none] [] σ none τ ∧ qm_rI τ 7 = 1 ∧ qm_rI τ 8 = 0 ∧ (∀ p, p < 4 → qm_rF τ 12 p = nI (fst_ 5 6 qn_c0 p)) ∧ (∀ k, k < qn_c0.length → qm_rF τ 6 k = nI (qn_c0.getD k 0)) ∧ sm σ τ 0 9 0 18 := by
  obtain ⟨σ2, hE, hP, hs⟩ := l_txi 47 0 σ (by decide) ⟨h8, fun i hi => absurd hi (Nat.not_lt_zero i)⟩
  have h72 : qm_rI σ2 7 = nI 0 := by rw [hs.1 _ (by omega)]; exact h7
  obtain ⟨τ, hX, a1, a2, a3, a4, a5⟩ := qn_txt2 qn_ok0 qn_full0 (by decide) hP h72
  refine ⟨τ, ?_, a1, a2, a3, a4, (hs.wid (by omega) (by omega)).tr a5⟩
  refine ex_iconst (x := 0) dX6_init_64 rfl rfl ?_
  refine ex_istore_n (ls' := [some (.ref 4), some (.int 0)]) dX6_init_65 rfl (Nat.le_of_ble_eq_true rfl) rfl rfl ?_
  exact hE _ _ hX

