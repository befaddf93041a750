/-! ===== the reference's constructor behind its allocations ===== -/
def mX9_init : qm_MI := (yX9_init, cX9_init, 2, none, 8, 0)
set_option maxRecDepth 8000 in
set_option maxHeartbeats 2000000 in
theorem qn_mtl {g : Nat → Nat} : ∀ (r k : Nat) (σ1 : qm_St), k + r = 47 → (∀ i, i < 47 → qm_rF σ1 54 i = nI (g i)) → (∀ i, i < k → qm_rF σ1 47 i = nI (g i)) → ∃ σ', (∀ v τ, Ex qm_lay 5 mX9_init 1055 [some (.ref 55), some (.int 47)] [] σ' v τ → Ex qm_lay 5 mX9_init 1031 [some (.ref 55), some (.int (nI k))] [] σ1 v τ) ∧ (∀ i, i < 47 → qm_rF σ' 47 i = nI (g i)) ∧ sm σ1 σ' 0 0 47 48 := by
  intro r
  induction r with
  | zero =>
    intro k σ1 hk h54 h47
    have ek : k = 47 := by omega
    subst ek
    refine ⟨σ1, fun v τ hz => ?_, h47, sm.rf _ _ _ _ _⟩
    refine ex_iload_n dX9_init_1031 rfl rfl ?_
    refine ex_bipush (x := 47) dX9_init_1032 rfl rfl ?_
    refine ex_icmp_ge (q := 1055) (q2 := 1037) dX9_init_1034 rfl rfl (fun _ => ?_) (fun hh => absurd (by decide) hh)
    exact hz
  | succ r ih =>
    intro k σ1 hk h54 h47
    have hs1 : sm σ1 (qm_wF σ1 47 k (nI (g k))) 0 0 47 48 := (sm.rf σ1 0 0 47 48).wF _ (by omega)
    have a54 : ∀ i, i < 47 → qm_rF (qm_wF σ1 47 k (nI (g k))) 54 i = nI (g i) := fun i hi => by rw [rF_ne (Or.inl (by decide))]; exact h54 i hi
    have a47 : ∀ i, i < k + 1 → qm_rF (qm_wF σ1 47 k (nI (g k))) 47 i = nI (g i) := fun i hi => by
      by_cases e : i = k
      · rw [e, rF_eq]
      · rw [rF_ne (Or.inr e)]
        exact h47 i (by omega)
    obtain ⟨σ', hE, hP, hs⟩ := ih (k + 1) _ (by omega) a54 a47
    refine ⟨σ', fun v τ hz => ?_, hP, hs1.tr hs⟩
    have hE2 := hE v τ hz
    refine ex_iload_n dX9_init_1031 rfl rfl ?_
    refine ex_bipush (x := 47) dX9_init_1032 rfl rfl ?_
    refine ex_icmp_ge (q := 1055) (q2 := 1037) dX9_init_1034 rfl rfl (fun hh => absurd hh (nI_ge (a := k) (b := 47) (by omega) (by omega))) (fun _ => ?_)
    refine ex_aload_n dX9_init_1037 rfl rfl ?_
    refine ex_getR (b := 61) dX9_init_1038 rfl qp_8_25 rfl rfl ?_
    refine ex_iload_n dX9_init_1041 rfl rfl ?_
    refine ex_aload_n dX9_init_1042 rfl rfl ?_
    refine ex_getR (b := 68) dX9_init_1043 rfl qp_8_46 rfl rfl ?_
    refine ex_iload_n dX9_init_1046 rfl rfl ?_
    refine ex_iaload (k := k) (x := nI (g k)) dX9_init_1047 rfl rfl (rfl) (by omega) (by decide) (h54 k (by omega)) ?_
    refine ex_iastore (k := k) (σ' := qm_wF σ1 47 k (nI (g k))) dX9_init_1048 rfl rfl (rfl) (by omega) (by decide) rfl ?_
    refine ex_iinc (y := nI (k + 1)) (ls' := [some (.ref 55), some (.int (nI (k + 1)))]) dX9_init_1049 rfl rfl rfl (nI_add k 1) rfl ?_
    refine ex_goto (q := 1031) dX9_init_1052 rfl ?_
    exact hE2

set_option maxRecDepth 8000 in
set_option maxHeartbeats 2000000 in
theorem qn_mt {t : gt_T} {a b : Nat} {c : List Nat} (hk : gt_ok t) (ht : t.1 = 47) (hf : full t = .inr (a, b, c)) {σ : qm_St} (hL : ∀ i, i < 47 → qm_rF σ 54 i = nI (t.2 i)) (hW : KW σ) (h30 : qm_rI σ 30 = nI 0) : ∃ τ, Ex qm_lay 5 mX9_init 1029 [some (.ref 55), none] [] σ none τ ∧ qm_rI τ 30 = nI 1 ∧ qm_rI τ 29 = 0 ∧ (∀ p, p < 4 → qm_rF τ 49 p = nI (fst_ a b c p)) ∧ (∀ k, k < c.length → qm_rF τ 48 k = nI (gx_m (c.getD k 0))) ∧ (∀ s, (s < 29 ∨ (31 ≤ s ∧ s < 36) ∨ 43 ≤ s) → qm_rI τ s = qm_rI σ s) ∧ ∀ j, j ≠ 47 → j ≠ 48 → j ≠ 49 → j ≠ 56 → ∀ k, qm_rF τ j k = qm_rF σ j k := by
  obtain ⟨σ2, hE, h47, hs⟩ := qn_mtl 47 0 σ (by decide) hL (fun i hi => absurd hi (Nat.not_lt_zero i))
  have hP : PM (qm_wI σ2 29 47) t := ⟨by rw [ht]; rfl, fun i hi => h47 i (by omega)⟩
  have hW2 : KW (qm_wI σ2 29 47) := fun i hi => (hs.2 55 (by omega) i).trans (hW i hi)
  have h302 : qm_rI (qm_wI σ2 29 47) 30 = nI 0 := (hs.1 30 (by omega)).trans h30
  obtain ⟨τ, hO, h29, hx⟩ := k_text hk (n := 0) (by decide) hP hW2 h302
  rw [hf] at hO
  obtain ⟨hO, g30, g49, g48⟩ := hO
  refine ⟨τ, ?_, g30, h29, fun p hp => ?_, fun k hk => ?_, fun s h => ?_, fun j h1 h2 h3 h4 k => ?_⟩
  · refine ex_iconst (x := 0) dX9_init_1029 rfl rfl ?_
    refine ex_istore_n (ls' := [some (.ref 55), some (.int 0)]) dX9_init_1030 rfl (Nat.le_of_ble_eq_true rfl) rfl rfl ?_
    refine hE _ _ ?_
    refine ex_aload_n dX9_init_1055 rfl rfl ?_
    refine ex_bipush (x := 47) dX9_init_1056 rfl rfl ?_
    refine ex_put (σ' := qm_wI σ2 29 47) dX9_init_1058 rfl qp_8_70 rfl rfl (Or.inl rfl) rfl ?_
    refine ex_aload_n dX9_init_1061 rfl rfl ?_
    refine ex_callV (a := 55) (rest := []) dX9_init_1062 rfl qp_8_74 rfl rfl rfl rfl rfl (Nat.le_of_ble_eq_true rfl) (hO) (Nat.le_of_ble_eq_true rfl) ?_
    show Ex qm_lay _ mX9_init 1065 [some (.ref 55), some (.int 47)] [.int (nI 0)] τ _ _
    refine ex_pop dX9_init_1065 rfl rfl ?_
    exact ex_vret dX9_init_1066 rfl rfl rfl
  · have := g49 p hp
    rwa [Nat.mul_zero, Nat.zero_add] at this
  · have := g48 k hk
    rwa [Nat.mul_zero, Nat.zero_add] at this
  · rw [hx.1 s h, rI_wI, if_neg (by omega)]
    exact hs.1 s (by omega)
  · rw [hx.2.1 j h2 h3 h4 k]
    exact hs.2 j (by omega) k

