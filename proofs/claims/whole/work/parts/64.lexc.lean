/-! ===== the class reads tokens ===== -/
/-- the tape, as the reader has it -/
def TPR (σ : qm_St) (t : gt_T) : Prop := qm_rI σ 0 = nI t.1 ∧ ∀ i, i < t.1 → qm_rF σ 2 i = nI (t.2 i)
theorem TPR.sm {σ σ' : qm_St} {t : gt_T} (h : TPR σ t) {i1 i2 j1 j2 : Nat} (g : sm σ σ' i1 i2 j1 j2) (hi : 1 ≤ i1) (hj : j2 ≤ 2 ∨ 3 ≤ j1) : TPR σ' t := ⟨by rw [g.1 _ (by omega)]; exact h.1, fun i hi' => by rw [g.2 _ (by omega)]; exact h.2 i hi'⟩
/-- a token as it stands in the reader -/
def LXP (σ : qm_St) (L : Nat × Nat × Nat × Nat) : Prop := qm_rI σ 3 = nI L.1 ∧ qm_rI σ 4 = nI L.2.1 ∧ ((L.2.1 = 1 ∨ L.2.1 = 2) → qm_rI σ 5 = nI L.2.2.1) ∧ (L.2.1 = 3 → qm_rI σ 6 = nI L.1) ∧ (L.2.1 ≠ 3 → qm_rI σ 6 = -1 ∧ qm_rI σ 2 = nI L.2.2.2)
theorem sref_w : ∀ w, w < 12 → qm_sref (1001 + w) = some (wst w) ∧ (wst w).length ≤ 6 := by decide +kernel
theorem mtw_len {t : gt_T} {p e w : Nat} (h : ¬ (wst w).length = e - p) : mtw t p e w = false := by
  unfold mtw
  rw [decide_eq_false h]; rfl
theorem mtw_all {t : gt_T} {p e w : Nat} (h : (wst w).length = e - p) : mtw t p e w = alf (fun i => decide ((wst w).getD i 0 = nI (t.2 (p + i)))) (e - p) 0 := by
  unfold mtw
  rw [decide_eq_true h]; rfl

set_option maxRecDepth 8000 in
set_option maxHeartbeats 2000000 in
theorem c_isLetter {ext : List qm_LE} (σ : qm_St) {c : Nat} (hc : c < 256) : Ok (qm_layT ++ ext) 0 mX3_isLetter [.int (nI c)] σ (some (.int (b2i (tIsL c)))) σ := by
  refine Ok.of (ls := [some (.int (nI c))]) (Nat.le_of_ble_eq_true rfl) rfl ?_
  refine ex_iload_n dX3_isLetter_0 rfl rfl ?_
  refine ex_bipush (x := 97) dX3_isLetter_1 rfl rfl ?_
  refine ex_icmp_lt (q := 16) (q2 := 6) dX3_isLetter_3 rfl rfl (fun h3 => ?_) (fun h3 => ?_)
  · have n3 : c < 97 := (nI_ltI (a := c) (b := 97) (by omega) (by omega)).mp h3
    refine ex_iconst (x := 0) dX3_isLetter_16 rfl rfl ?_
    exact ex_zret dX3_isLetter_17 rfl (by decide) (by unfold tIsL; first | rw [decide_eq_true (show 97 ≤ c by omega), decide_eq_true (show c ≤ 122 by omega)]; rfl | rw [decide_eq_false (show ¬ 97 ≤ c by omega)]; rfl | rw [decide_eq_true (show 97 ≤ c by omega), decide_eq_false (show ¬ c ≤ 122 by omega)]; rfl) rfl
  · have n3 : ¬ c < 97 := mt (nI_ltI (a := c) (b := 97) (by omega) (by omega)).mpr h3
    refine ex_iload_n dX3_isLetter_6 rfl rfl ?_
    refine ex_bipush (x := 122) dX3_isLetter_7 rfl rfl ?_
    refine ex_icmp_gt (q := 16) (q2 := 12) dX3_isLetter_9 rfl rfl (fun h9 => ?_) (fun h9 => ?_)
    · have n9 : 122 < c := (nI_ltI (a := 122) (b := c) (by omega) (by omega)).mp h9
      refine ex_iconst (x := 0) dX3_isLetter_16 rfl rfl ?_
      exact ex_zret dX3_isLetter_17 rfl (by decide) (by unfold tIsL; first | rw [decide_eq_true (show 97 ≤ c by omega), decide_eq_true (show c ≤ 122 by omega)]; rfl | rw [decide_eq_false (show ¬ 97 ≤ c by omega)]; rfl | rw [decide_eq_true (show 97 ≤ c by omega), decide_eq_false (show ¬ c ≤ 122 by omega)]; rfl) rfl
    · have n9 : ¬ 122 < c := mt (nI_ltI (a := 122) (b := c) (by omega) (by omega)).mpr h9
      refine ex_iconst (x := 1) dX3_isLetter_12 rfl rfl ?_
      refine ex_goto (q := 17) dX3_isLetter_13 rfl ?_
      exact ex_zret dX3_isLetter_17 rfl (by decide) (by unfold tIsL; first | rw [decide_eq_true (show 97 ≤ c by omega), decide_eq_true (show c ≤ 122 by omega)]; rfl | rw [decide_eq_false (show ¬ 97 ≤ c by omega)]; rfl | rw [decide_eq_true (show 97 ≤ c by omega), decide_eq_false (show ¬ c ≤ 122 by omega)]; rfl) rfl

set_option maxRecDepth 8000 in
set_option maxHeartbeats 2000000 in
theorem c_isDigit {ext : List qm_LE} (σ : qm_St) {c : Nat} (hc : c < 256) : Ok (qm_layT ++ ext) 0 mX3_isDigit [.int (nI c)] σ (some (.int (b2i (tIsD c)))) σ := by
  refine Ok.of (ls := [some (.int (nI c))]) (Nat.le_of_ble_eq_true rfl) rfl ?_
  refine ex_iload_n dX3_isDigit_0 rfl rfl ?_
  refine ex_bipush (x := 48) dX3_isDigit_1 rfl rfl ?_
  refine ex_icmp_lt (q := 16) (q2 := 6) dX3_isDigit_3 rfl rfl (fun h3 => ?_) (fun h3 => ?_)
  · have n3 : c < 48 := (nI_ltI (a := c) (b := 48) (by omega) (by omega)).mp h3
    refine ex_iconst (x := 0) dX3_isDigit_16 rfl rfl ?_
    exact ex_zret dX3_isDigit_17 rfl (by decide) (by unfold tIsD; first | rw [decide_eq_true (show 48 ≤ c by omega), decide_eq_true (show c ≤ 57 by omega)]; rfl | rw [decide_eq_false (show ¬ 48 ≤ c by omega)]; rfl | rw [decide_eq_true (show 48 ≤ c by omega), decide_eq_false (show ¬ c ≤ 57 by omega)]; rfl) rfl
  · have n3 : ¬ c < 48 := mt (nI_ltI (a := c) (b := 48) (by omega) (by omega)).mpr h3
    refine ex_iload_n dX3_isDigit_6 rfl rfl ?_
    refine ex_bipush (x := 57) dX3_isDigit_7 rfl rfl ?_
    refine ex_icmp_gt (q := 16) (q2 := 12) dX3_isDigit_9 rfl rfl (fun h9 => ?_) (fun h9 => ?_)
    · have n9 : 57 < c := (nI_ltI (a := 57) (b := c) (by omega) (by omega)).mp h9
      refine ex_iconst (x := 0) dX3_isDigit_16 rfl rfl ?_
      exact ex_zret dX3_isDigit_17 rfl (by decide) (by unfold tIsD; first | rw [decide_eq_true (show 48 ≤ c by omega), decide_eq_true (show c ≤ 57 by omega)]; rfl | rw [decide_eq_false (show ¬ 48 ≤ c by omega)]; rfl | rw [decide_eq_true (show 48 ≤ c by omega), decide_eq_false (show ¬ c ≤ 57 by omega)]; rfl) rfl
    · have n9 : ¬ 57 < c := mt (nI_ltI (a := 57) (b := c) (by omega) (by omega)).mpr h9
      refine ex_iconst (x := 1) dX3_isDigit_12 rfl rfl ?_
      refine ex_goto (q := 17) dX3_isDigit_13 rfl ?_
      exact ex_zret dX3_isDigit_17 rfl (by decide) (by unfold tIsD; first | rw [decide_eq_true (show 48 ≤ c by omega), decide_eq_true (show c ≤ 57 by omega)]; rfl | rw [decide_eq_false (show ¬ 48 ≤ c by omega)]; rfl | rw [decide_eq_true (show 48 ≤ c by omega), decide_eq_false (show ¬ c ≤ 57 by omega)]; rfl) rfl

set_option maxRecDepth 8000 in
set_option maxHeartbeats 2000000 in
theorem c_isSign {ext : List qm_LE} (σ : qm_St) {c : Nat} (hc : c < 256) : Ok (qm_layT ++ ext) 0 mX3_isSign [.int (nI c)] σ (some (.int (b2i (tIsS c)))) σ := by
  have h1 : ∀ d, d = 40 ∨ d = 41 ∨ d = 59 ∨ d = 43 ∨ d = 45 ∨ d = 42 ∨ d = 60 ∨ d = 61 → tIsS d = true := fun d h => by rcases h with e | e | e | e | e | e | e | e <;> (subst e; rfl)
  refine Ok.of (ls := [some (.int (nI c))]) (Nat.le_of_ble_eq_true rfl) rfl ?_
  refine ex_iload_n dX3_isSign_0 rfl rfl ?_
  refine ex_bipush (x := 40) dX3_isSign_1 rfl rfl ?_
  refine ex_icmp_eq (q := 48) (q2 := 6) dX3_isSign_3 rfl rfl (fun h3 => ?_) (fun h3 => ?_)
  · have n3 : c = 40 := (nI_eq (a := c) (b := 40) (by omega) (by omega)).mp h3
    refine ex_iconst (x := 1) dX3_isSign_48 rfl rfl ?_
    refine ex_goto (q := 53) dX3_isSign_49 rfl ?_
    exact ex_zret dX3_isSign_53 rfl (by decide) (by first | (rw [h1 c (by omega)]; rfl) | (unfold tIsS; rw [decide_eq_false (show ¬ c = 40 by omega), decide_eq_false (show ¬ c = 41 by omega), decide_eq_false (show ¬ c = 59 by omega), decide_eq_false (show ¬ c = 43 by omega), decide_eq_false (show ¬ c = 45 by omega), decide_eq_false (show ¬ c = 42 by omega), decide_eq_false (show ¬ c = 60 by omega), decide_eq_false (show ¬ c = 61 by omega)]; rfl)) rfl
  · have n3 : ¬ c = 40 := mt (nI_eq (a := c) (b := 40) (by omega) (by omega)).mpr h3
    refine ex_iload_n dX3_isSign_6 rfl rfl ?_
    refine ex_bipush (x := 41) dX3_isSign_7 rfl rfl ?_
    refine ex_icmp_eq (q := 48) (q2 := 12) dX3_isSign_9 rfl rfl (fun h9 => ?_) (fun h9 => ?_)
    · have n9 : c = 41 := (nI_eq (a := c) (b := 41) (by omega) (by omega)).mp h9
      refine ex_iconst (x := 1) dX3_isSign_48 rfl rfl ?_
      refine ex_goto (q := 53) dX3_isSign_49 rfl ?_
      exact ex_zret dX3_isSign_53 rfl (by decide) (by first | (rw [h1 c (by omega)]; rfl) | (unfold tIsS; rw [decide_eq_false (show ¬ c = 40 by omega), decide_eq_false (show ¬ c = 41 by omega), decide_eq_false (show ¬ c = 59 by omega), decide_eq_false (show ¬ c = 43 by omega), decide_eq_false (show ¬ c = 45 by omega), decide_eq_false (show ¬ c = 42 by omega), decide_eq_false (show ¬ c = 60 by omega), decide_eq_false (show ¬ c = 61 by omega)]; rfl)) rfl
    · have n9 : ¬ c = 41 := mt (nI_eq (a := c) (b := 41) (by omega) (by omega)).mpr h9
      refine ex_iload_n dX3_isSign_12 rfl rfl ?_
      refine ex_bipush (x := 59) dX3_isSign_13 rfl rfl ?_
      refine ex_icmp_eq (q := 48) (q2 := 18) dX3_isSign_15 rfl rfl (fun h15 => ?_) (fun h15 => ?_)
      · have n15 : c = 59 := (nI_eq (a := c) (b := 59) (by omega) (by omega)).mp h15
        refine ex_iconst (x := 1) dX3_isSign_48 rfl rfl ?_
        refine ex_goto (q := 53) dX3_isSign_49 rfl ?_
        exact ex_zret dX3_isSign_53 rfl (by decide) (by first | (rw [h1 c (by omega)]; rfl) | (unfold tIsS; rw [decide_eq_false (show ¬ c = 40 by omega), decide_eq_false (show ¬ c = 41 by omega), decide_eq_false (show ¬ c = 59 by omega), decide_eq_false (show ¬ c = 43 by omega), decide_eq_false (show ¬ c = 45 by omega), decide_eq_false (show ¬ c = 42 by omega), decide_eq_false (show ¬ c = 60 by omega), decide_eq_false (show ¬ c = 61 by omega)]; rfl)) rfl
      · have n15 : ¬ c = 59 := mt (nI_eq (a := c) (b := 59) (by omega) (by omega)).mpr h15
        refine ex_iload_n dX3_isSign_18 rfl rfl ?_
        refine ex_bipush (x := 43) dX3_isSign_19 rfl rfl ?_
        refine ex_icmp_eq (q := 48) (q2 := 24) dX3_isSign_21 rfl rfl (fun h21 => ?_) (fun h21 => ?_)
        · have n21 : c = 43 := (nI_eq (a := c) (b := 43) (by omega) (by omega)).mp h21
          refine ex_iconst (x := 1) dX3_isSign_48 rfl rfl ?_
          refine ex_goto (q := 53) dX3_isSign_49 rfl ?_
          exact ex_zret dX3_isSign_53 rfl (by decide) (by first | (rw [h1 c (by omega)]; rfl) | (unfold tIsS; rw [decide_eq_false (show ¬ c = 40 by omega), decide_eq_false (show ¬ c = 41 by omega), decide_eq_false (show ¬ c = 59 by omega), decide_eq_false (show ¬ c = 43 by omega), decide_eq_false (show ¬ c = 45 by omega), decide_eq_false (show ¬ c = 42 by omega), decide_eq_false (show ¬ c = 60 by omega), decide_eq_false (show ¬ c = 61 by omega)]; rfl)) rfl
        · have n21 : ¬ c = 43 := mt (nI_eq (a := c) (b := 43) (by omega) (by omega)).mpr h21
          refine ex_iload_n dX3_isSign_24 rfl rfl ?_
          refine ex_bipush (x := 45) dX3_isSign_25 rfl rfl ?_
          refine ex_icmp_eq (q := 48) (q2 := 30) dX3_isSign_27 rfl rfl (fun h27 => ?_) (fun h27 => ?_)
          · have n27 : c = 45 := (nI_eq (a := c) (b := 45) (by omega) (by omega)).mp h27
            refine ex_iconst (x := 1) dX3_isSign_48 rfl rfl ?_
            refine ex_goto (q := 53) dX3_isSign_49 rfl ?_
            exact ex_zret dX3_isSign_53 rfl (by decide) (by first | (rw [h1 c (by omega)]; rfl) | (unfold tIsS; rw [decide_eq_false (show ¬ c = 40 by omega), decide_eq_false (show ¬ c = 41 by omega), decide_eq_false (show ¬ c = 59 by omega), decide_eq_false (show ¬ c = 43 by omega), decide_eq_false (show ¬ c = 45 by omega), decide_eq_false (show ¬ c = 42 by omega), decide_eq_false (show ¬ c = 60 by omega), decide_eq_false (show ¬ c = 61 by omega)]; rfl)) rfl
          · have n27 : ¬ c = 45 := mt (nI_eq (a := c) (b := 45) (by omega) (by omega)).mpr h27
            refine ex_iload_n dX3_isSign_30 rfl rfl ?_
            refine ex_bipush (x := 42) dX3_isSign_31 rfl rfl ?_
            refine ex_icmp_eq (q := 48) (q2 := 36) dX3_isSign_33 rfl rfl (fun h33 => ?_) (fun h33 => ?_)
            · have n33 : c = 42 := (nI_eq (a := c) (b := 42) (by omega) (by omega)).mp h33
              refine ex_iconst (x := 1) dX3_isSign_48 rfl rfl ?_
              refine ex_goto (q := 53) dX3_isSign_49 rfl ?_
              exact ex_zret dX3_isSign_53 rfl (by decide) (by first | (rw [h1 c (by omega)]; rfl) | (unfold tIsS; rw [decide_eq_false (show ¬ c = 40 by omega), decide_eq_false (show ¬ c = 41 by omega), decide_eq_false (show ¬ c = 59 by omega), decide_eq_false (show ¬ c = 43 by omega), decide_eq_false (show ¬ c = 45 by omega), decide_eq_false (show ¬ c = 42 by omega), decide_eq_false (show ¬ c = 60 by omega), decide_eq_false (show ¬ c = 61 by omega)]; rfl)) rfl
            · have n33 : ¬ c = 42 := mt (nI_eq (a := c) (b := 42) (by omega) (by omega)).mpr h33
              refine ex_iload_n dX3_isSign_36 rfl rfl ?_
              refine ex_bipush (x := 60) dX3_isSign_37 rfl rfl ?_
              refine ex_icmp_eq (q := 48) (q2 := 42) dX3_isSign_39 rfl rfl (fun h39 => ?_) (fun h39 => ?_)
              · have n39 : c = 60 := (nI_eq (a := c) (b := 60) (by omega) (by omega)).mp h39
                refine ex_iconst (x := 1) dX3_isSign_48 rfl rfl ?_
                refine ex_goto (q := 53) dX3_isSign_49 rfl ?_
                exact ex_zret dX3_isSign_53 rfl (by decide) (by first | (rw [h1 c (by omega)]; rfl) | (unfold tIsS; rw [decide_eq_false (show ¬ c = 40 by omega), decide_eq_false (show ¬ c = 41 by omega), decide_eq_false (show ¬ c = 59 by omega), decide_eq_false (show ¬ c = 43 by omega), decide_eq_false (show ¬ c = 45 by omega), decide_eq_false (show ¬ c = 42 by omega), decide_eq_false (show ¬ c = 60 by omega), decide_eq_false (show ¬ c = 61 by omega)]; rfl)) rfl
              · have n39 : ¬ c = 60 := mt (nI_eq (a := c) (b := 60) (by omega) (by omega)).mpr h39
                refine ex_iload_n dX3_isSign_42 rfl rfl ?_
                refine ex_bipush (x := 61) dX3_isSign_43 rfl rfl ?_
                refine ex_icmp_ne (q := 52) (q2 := 48) dX3_isSign_45 rfl rfl (fun h45 => ?_) (fun h45 => ?_)
                · have n45 : ¬ c = 61 := mt (nI_eq (a := c) (b := 61) (by omega) (by omega)).mpr h45
                  refine ex_iconst (x := 0) dX3_isSign_52 rfl rfl ?_
                  exact ex_zret dX3_isSign_53 rfl (by decide) (by first | (rw [h1 c (by omega)]; rfl) | (unfold tIsS; rw [decide_eq_false (show ¬ c = 40 by omega), decide_eq_false (show ¬ c = 41 by omega), decide_eq_false (show ¬ c = 59 by omega), decide_eq_false (show ¬ c = 43 by omega), decide_eq_false (show ¬ c = 45 by omega), decide_eq_false (show ¬ c = 42 by omega), decide_eq_false (show ¬ c = 60 by omega), decide_eq_false (show ¬ c = 61 by omega)]; rfl)) rfl
                · have n45 : c = 61 := (nI_eq (a := c) (b := 61) (by omega) (by omega)).mp (Decidable.not_not.mp h45)
                  refine ex_iconst (x := 1) dX3_isSign_48 rfl rfl ?_
                  refine ex_goto (q := 53) dX3_isSign_49 rfl ?_
                  exact ex_zret dX3_isSign_53 rfl (by decide) (by first | (rw [h1 c (by omega)]; rfl) | (unfold tIsS; rw [decide_eq_false (show ¬ c = 40 by omega), decide_eq_false (show ¬ c = 41 by omega), decide_eq_false (show ¬ c = 59 by omega), decide_eq_false (show ¬ c = 43 by omega), decide_eq_false (show ¬ c = 45 by omega), decide_eq_false (show ¬ c = 42 by omega), decide_eq_false (show ¬ c = 60 by omega), decide_eq_false (show ¬ c = 61 by omega)]; rfl)) rfl

theorem c_fail_n {ext : List qm_LE} {σ : qm_St} {p : Nat} (h3 : qm_rI σ 3 = nI p) (h6 : qm_rI σ 6 = -1) : Ok (qm_layT ++ ext) 0 mX3_fail [.ref 0] σ none (qm_wI (qm_wI σ 6 (nI p)) 4 3) := by
  refine Ok.of (ls := [some (.ref 0)]) (Nat.le_of_ble_eq_true rfl) rfl ?_
  refine ex_aload_n dX3_fail_0 rfl rfl ?_
  refine ex_getI (s := 6) (x := (-1)) dX3_fail_1 rfl qp_2_37 rfl rfl (h6) ?_
  refine ex_if_ge (q := 15) (q2 := 7) dX3_fail_4 rfl rfl (fun hh => absurd hh (by decide)) (fun _ => ?_)
  refine ex_aload_n dX3_fail_7 rfl rfl ?_
  refine ex_aload_n dX3_fail_8 rfl rfl ?_
  refine ex_getI (s := 3) (x := nI p) dX3_fail_9 rfl qp_2_56 rfl rfl (h3) ?_
  refine ex_put (σ' := qm_wI σ 6 (nI p)) dX3_fail_12 rfl qp_2_37 rfl rfl (Or.inl rfl) rfl ?_
  refine ex_aload_n dX3_fail_15 rfl rfl ?_
  refine ex_iconst (x := 3) dX3_fail_16 rfl rfl ?_
  refine ex_put (σ' := qm_wI (qm_wI σ 6 (nI p)) 4 3) dX3_fail_17 rfl qp_2_50 rfl rfl (Or.inl rfl) rfl ?_
  exact ex_vret dX3_fail_20 rfl rfl rfl

theorem c_fail_o {ext : List qm_LE} {σ : qm_St} {e : Nat} (he : e < 2 ^ 31) (h6 : qm_rI σ 6 = nI e) : Ok (qm_layT ++ ext) 0 mX3_fail [.ref 0] σ none (qm_wI σ 4 3) := by
  refine Ok.of (ls := [some (.ref 0)]) (Nat.le_of_ble_eq_true rfl) rfl ?_
  refine ex_aload_n dX3_fail_0 rfl rfl ?_
  refine ex_getI (s := 6) (x := nI e) dX3_fail_1 rfl qp_2_37 rfl rfl (h6) ?_
  refine ex_if_ge (q := 15) (q2 := 7) dX3_fail_4 rfl rfl (fun _ => ?_) (fun hh => absurd (nI_pos' (by omega)) hh)
  refine ex_aload_n dX3_fail_15 rfl rfl ?_
  refine ex_iconst (x := 3) dX3_fail_16 rfl rfl ?_
  refine ex_put (σ' := qm_wI σ 4 3) dX3_fail_17 rfl qp_2_50 rfl rfl (Or.inl rfl) rfl ?_
  exact ex_vret dX3_fail_20 rfl rfl rfl

theorem c_mayOpen_t {ext : List qm_LE} (σ : qm_St) {o : Nat} (ho : o < 5) : Ok (qm_layT ++ ext) 1 mX3_mayOpen [.ref 0, .int (nI o)] σ (some (.int 1)) σ := by
  refine Ok.of (ls := [some (.ref 0), some (.int (nI o))]) (Nat.le_of_ble_eq_true rfl) rfl ?_
  refine ex_iload_n dX3_mayOpen_0 rfl rfl ?_
  refine ex_iconst (x := 5) dX3_mayOpen_1 rfl rfl ?_
  refine ex_icmp_lt (q := 11) (q2 := 5) dX3_mayOpen_2 rfl rfl (fun _ => ?_) (fun hh => absurd (nI_lt (a := o) (b := 5) (by omega) (by omega)) hh)
  refine ex_iconst (x := 1) dX3_mayOpen_11 rfl rfl ?_
  exact ex_zret dX3_mayOpen_12 rfl (by decide) rfl rfl

theorem c_addStep_t {ext : List qm_LE} {σ : qm_St} {n : Nat} (h1 : qm_rI σ 1 = nI n) (hn : n < 160) (c : Nat) : Ok (qm_layT ++ ext) 0 mX3_addStep [.ref 0, .int (nI c)] σ none (qm_wI (qm_wF σ 0 n (nI c)) 1 (nI (n + 1))) := by
  refine Ok.of (ls := [some (.ref 0), some (.int (nI c))]) (Nat.le_of_ble_eq_true rfl) rfl ?_
  refine ex_aload_n dX3_addStep_0 rfl rfl ?_
  refine ex_getI (s := 1) (x := nI n) dX3_addStep_1 rfl qp_2_31 rfl rfl (h1) ?_
  refine ex_sipush (x := 160) dX3_addStep_4 rfl rfl ?_
  refine ex_icmp_ge (q := 30) (q2 := 10) dX3_addStep_7 rfl rfl (fun hh => absurd hh (nI_ge (a := n) (b := 160) (by omega) (by omega))) (fun _ => ?_)
  refine ex_aload_n dX3_addStep_10 rfl rfl ?_
  refine ex_getR (b := 1) dX3_addStep_11 rfl qp_2_9 rfl rfl ?_
  refine ex_aload_n dX3_addStep_14 rfl rfl ?_
  refine ex_getI (s := 1) (x := nI n) dX3_addStep_15 rfl qp_2_31 rfl rfl (h1) ?_
  refine ex_iload_n dX3_addStep_18 rfl rfl ?_
  refine ex_iastore (k := n) (σ' := qm_wF σ 0 n (nI c)) dX3_addStep_19 rfl rfl (rfl) (by omega) (by decide) rfl ?_
  refine ex_aload_n dX3_addStep_20 rfl rfl ?_
  refine ex_dup dX3_addStep_21 rfl rfl ?_
  refine ex_getI (s := 1) (x := nI n) dX3_addStep_22 rfl qp_2_31 rfl rfl (h1) ?_
  refine ex_iconst (x := 1) dX3_addStep_25 rfl rfl ?_
  refine ex_iadd (z := nI (n + 1)) dX3_addStep_26 rfl (nI_add n 1) ?_
  refine ex_put (σ' := qm_wI (qm_wF σ 0 n (nI c)) 1 (nI (n + 1))) dX3_addStep_27 rfl qp_2_31 rfl rfl (Or.inl rfl) rfl ?_
  exact ex_vret dX3_addStep_30 rfl rfl rfl

theorem c_addStep_f {ext : List qm_LE} {σ : qm_St} {n : Nat} (h1 : qm_rI σ 1 = nI n) (hn : 160 ≤ n) (hn2 : n ≤ 160) (c : Nat) : Ok (qm_layT ++ ext) 0 mX3_addStep [.ref 0, .int (nI c)] σ none σ := by
  refine Ok.of (ls := [some (.ref 0), some (.int (nI c))]) (Nat.le_of_ble_eq_true rfl) rfl ?_
  refine ex_aload_n dX3_addStep_0 rfl rfl ?_
  refine ex_getI (s := 1) (x := nI n) dX3_addStep_1 rfl qp_2_31 rfl rfl (h1) ?_
  refine ex_sipush (x := 160) dX3_addStep_4 rfl rfl ?_
  refine ex_icmp_ge (q := 30) (q2 := 10) dX3_addStep_7 rfl rfl (fun _ => ?_) (fun hh => absurd (nI_le (a := 160) (b := n) (by omega) (by omega)) hh)
  exact ex_vret dX3_addStep_30 rfl rfl rfl

set_option maxRecDepth 8000 in
set_option maxHeartbeats 2000000 in
theorem c_word {ext : List qm_LE} (σ : qm_St) {w : Nat} (hw : w < 12) : Ok (qm_layT ++ ext) 0 mX3_word [.int (nI w)] σ (some (.ref (1001 + w))) σ := by
  have hc : w = 0 ∨ w = 1 ∨ w = 2 ∨ w = 3 ∨ w = 4 ∨ w = 5 ∨ w = 6 ∨ w = 7 ∨ w = 8 ∨ w = 9 ∨ w = 10 ∨ w = 11 := by omega
  rcases hc with e | e | e | e | e | e | e | e | e | e | e | e
  · subst e
    refine Ok.of (ls := [some (.int 0)]) (Nat.le_of_ble_eq_true rfl) rfl ?_
    refine ex_iload_n dX3_word_0 rfl rfl ?_
    refine ex_tswI (q := 60) (off := 59) dX3_word_1 (by decide) rfl rfl ?_
    refine ex_ldcS (j := 1) dX3_word_60 rfl qp_2_117 ?_
    exact ex_aret dX3_word_62 rfl rfl rfl
  · subst e
    refine Ok.of (ls := [some (.int 1)]) (Nat.le_of_ble_eq_true rfl) rfl ?_
    refine ex_iload_n dX3_word_0 rfl rfl ?_
    refine ex_tswI (q := 63) (off := 62) dX3_word_1 (by decide) rfl rfl ?_
    refine ex_ldcS (j := 2) dX3_word_63 rfl qp_2_119 ?_
    exact ex_aret dX3_word_65 rfl rfl rfl
  · subst e
    refine Ok.of (ls := [some (.int 2)]) (Nat.le_of_ble_eq_true rfl) rfl ?_
    refine ex_iload_n dX3_word_0 rfl rfl ?_
    refine ex_tswI (q := 66) (off := 65) dX3_word_1 (by decide) rfl rfl ?_
    refine ex_ldcS (j := 3) dX3_word_66 rfl qp_2_121 ?_
    exact ex_aret dX3_word_68 rfl rfl rfl
  · subst e
    refine Ok.of (ls := [some (.int 3)]) (Nat.le_of_ble_eq_true rfl) rfl ?_
    refine ex_iload_n dX3_word_0 rfl rfl ?_
    refine ex_tswI (q := 69) (off := 68) dX3_word_1 (by decide) rfl rfl ?_
    refine ex_ldcS (j := 4) dX3_word_69 rfl qp_2_123 ?_
    exact ex_aret dX3_word_71 rfl rfl rfl
  · subst e
    refine Ok.of (ls := [some (.int 4)]) (Nat.le_of_ble_eq_true rfl) rfl ?_
    refine ex_iload_n dX3_word_0 rfl rfl ?_
    refine ex_tswI (q := 72) (off := 71) dX3_word_1 (by decide) rfl rfl ?_
    refine ex_ldcS (j := 5) dX3_word_72 rfl qp_2_125 ?_
    exact ex_aret dX3_word_74 rfl rfl rfl
  · subst e
    refine Ok.of (ls := [some (.int 5)]) (Nat.le_of_ble_eq_true rfl) rfl ?_
    refine ex_iload_n dX3_word_0 rfl rfl ?_
    refine ex_tswI (q := 75) (off := 74) dX3_word_1 (by decide) rfl rfl ?_
    refine ex_ldcS (j := 6) dX3_word_75 rfl qp_2_127 ?_
    exact ex_aret dX3_word_77 rfl rfl rfl
  · subst e
    refine Ok.of (ls := [some (.int 6)]) (Nat.le_of_ble_eq_true rfl) rfl ?_
    refine ex_iload_n dX3_word_0 rfl rfl ?_
    refine ex_tswI (q := 78) (off := 77) dX3_word_1 (by decide) rfl rfl ?_
    refine ex_ldcS (j := 7) dX3_word_78 rfl qp_2_129 ?_
    exact ex_aret dX3_word_80 rfl rfl rfl
  · subst e
    refine Ok.of (ls := [some (.int 7)]) (Nat.le_of_ble_eq_true rfl) rfl ?_
    refine ex_iload_n dX3_word_0 rfl rfl ?_
    refine ex_tswI (q := 81) (off := 80) dX3_word_1 (by decide) rfl rfl ?_
    refine ex_ldcS (j := 8) dX3_word_81 rfl qp_2_131 ?_
    exact ex_aret dX3_word_83 rfl rfl rfl
  · subst e
    refine Ok.of (ls := [some (.int 8)]) (Nat.le_of_ble_eq_true rfl) rfl ?_
    refine ex_iload_n dX3_word_0 rfl rfl ?_
    refine ex_tswI (q := 84) (off := 83) dX3_word_1 (by decide) rfl rfl ?_
    refine ex_ldcS (j := 9) dX3_word_84 rfl qp_2_133 ?_
    exact ex_aret dX3_word_86 rfl rfl rfl
  · subst e
    refine Ok.of (ls := [some (.int 9)]) (Nat.le_of_ble_eq_true rfl) rfl ?_
    refine ex_iload_n dX3_word_0 rfl rfl ?_
    refine ex_tswI (q := 87) (off := 86) dX3_word_1 (by decide) rfl rfl ?_
    refine ex_ldcS (j := 10) dX3_word_87 rfl qp_2_135 ?_
    exact ex_aret dX3_word_89 rfl rfl rfl
  · subst e
    refine Ok.of (ls := [some (.int 10)]) (Nat.le_of_ble_eq_true rfl) rfl ?_
    refine ex_iload_n dX3_word_0 rfl rfl ?_
    refine ex_tswI (q := 90) (off := 89) dX3_word_1 (by decide) rfl rfl ?_
    refine ex_ldcS (j := 11) dX3_word_90 rfl qp_2_137 ?_
    exact ex_aret dX3_word_92 rfl rfl rfl
  · subst e
    refine Ok.of (ls := [some (.int 11)]) (Nat.le_of_ble_eq_true rfl) rfl ?_
    refine ex_iload_n dX3_word_0 rfl rfl ?_
    refine ex_tswO (q := 93) dX3_word_1 (by decide) rfl ?_
    refine ex_ldcS (j := 12) dX3_word_93 rfl qp_2_139 ?_
    exact ex_aret dX3_word_95 rfl rfl rfl

set_option maxRecDepth 8000 in
set_option maxHeartbeats 2000000 in
theorem l_stands {ext : List qm_LE} {σ : qm_St} {t : gt_T} (hk : gt_ok t) (ht : TPR σ t) {p e : Nat} (h2 : qm_rI σ 2 = nI e) (h3 : qm_rI σ 3 = nI p) (hpe : p ≤ e) (he : e ≤ t.1) {w : Nat} (hw : w < 12) (hlen : (wst w).length = e - p) : ∀ (r k : Nat), k + r = e - p → Ex (qm_layT ++ ext) 1 mX3_standsAtPlace 20 [some (.ref 0), some (.ref (1001 + w)), some (.int (nI k))] [] σ (some (.int (b2i (alf (fun i => decide ((wst w).getD i 0 = nI (t.2 (p + i)))) r k)))) σ := by
  have h160 := hk.1
  have hsr := sref_w w hw
  intro r
  induction r with
  | zero =>
    intro k hk2
    refine ex_iload_n dX3_standsAtPlace_20 rfl rfl ?_
    refine ex_aload_n dX3_standsAtPlace_21 rfl rfl ?_
    refine ex_slen (x := nI (wst w).length) dX3_standsAtPlace_22 rfl qp_2_107 (hsr.1) (Nat.le_of_ble_eq_true rfl) (rfl) ?_
    refine ex_icmp_ge (q := 55) (q2 := 28) dX3_standsAtPlace_25 rfl rfl (fun _ => ?_) (fun hh => absurd (nI_le (a := ((wst w).length)) (b := k) (by omega) (by omega)) hh)
    refine ex_iconst (x := 1) dX3_standsAtPlace_55 rfl rfl ?_
    exact ex_zret dX3_standsAtPlace_56 rfl (by decide) rfl rfl
  | succ r ih =>
    intro k hk2
    have e0 : alf (fun i => decide ((wst w).getD i 0 = nI (t.2 (p + i)))) (r + 1) k = (decide ((wst w).getD k 0 = nI (t.2 (p + k))) && alf (fun i => decide ((wst w).getD i 0 = nI (t.2 (p + i)))) r (k + 1)) := rfl
    by_cases c : (wst w).getD k 0 = nI (t.2 (p + k))
    · rw [e0, decide_eq_true c, Bool.true_and]
      refine ex_iload_n dX3_standsAtPlace_20 rfl rfl ?_
      refine ex_aload_n dX3_standsAtPlace_21 rfl rfl ?_
      refine ex_slen (x := nI (wst w).length) dX3_standsAtPlace_22 rfl qp_2_107 (hsr.1) (Nat.le_of_ble_eq_true rfl) (rfl) ?_
      refine ex_icmp_ge (q := 55) (q2 := 28) dX3_standsAtPlace_25 rfl rfl (fun hh => absurd hh (nI_ge (a := k) (b := ((wst w).length)) (by omega) (by omega))) (fun _ => ?_)
      refine ex_aload_n dX3_standsAtPlace_28 rfl rfl ?_
      refine ex_iload_n dX3_standsAtPlace_29 rfl rfl ?_
      refine ex_scha (m := k) (x := (wst w).getD k 0) dX3_standsAtPlace_30 rfl qp_2_113 (hsr.1) (rfl) (by omega) (by omega) (Nat.le_of_ble_eq_true rfl) (rfl) ?_
      refine ex_aload_n dX3_standsAtPlace_33 rfl rfl ?_
      refine ex_getR (b := 3) dX3_standsAtPlace_34 rfl qp_2_18 rfl rfl ?_
      refine ex_aload_n dX3_standsAtPlace_37 rfl rfl ?_
      refine ex_getI (s := 3) (x := nI p) dX3_standsAtPlace_38 rfl qp_2_56 rfl rfl (h3) ?_
      refine ex_iload_n dX3_standsAtPlace_41 rfl rfl ?_
      refine ex_iadd (z := nI (p + k)) dX3_standsAtPlace_42 rfl (nI_add p k) ?_
      refine ex_iaload (k := p + k) (x := nI (t.2 (p + k))) dX3_standsAtPlace_43 rfl rfl (rfl) (by omega) (by decide) (ht.2 _ (by omega)) ?_
      refine ex_icmp_eq (q := 49) (q2 := 47) dX3_standsAtPlace_44 rfl rfl (fun _ => ?_) (fun hh => absurd (c) hh)
      refine ex_iinc (y := nI (k + 1)) (ls' := [some (.ref 0), some (.ref (1001 + w)), some (.int (nI (k + 1)))]) dX3_standsAtPlace_49 rfl rfl rfl (nI_add k 1) rfl ?_
      refine ex_goto (q := 20) dX3_standsAtPlace_52 rfl ?_
      exact ih (k + 1) (by omega)
    · rw [e0, decide_eq_false c, Bool.false_and]
      refine ex_iload_n dX3_standsAtPlace_20 rfl rfl ?_
      refine ex_aload_n dX3_standsAtPlace_21 rfl rfl ?_
      refine ex_slen (x := nI (wst w).length) dX3_standsAtPlace_22 rfl qp_2_107 (hsr.1) (Nat.le_of_ble_eq_true rfl) (rfl) ?_
      refine ex_icmp_ge (q := 55) (q2 := 28) dX3_standsAtPlace_25 rfl rfl (fun hh => absurd hh (nI_ge (a := k) (b := ((wst w).length)) (by omega) (by omega))) (fun _ => ?_)
      refine ex_aload_n dX3_standsAtPlace_28 rfl rfl ?_
      refine ex_iload_n dX3_standsAtPlace_29 rfl rfl ?_
      refine ex_scha (m := k) (x := (wst w).getD k 0) dX3_standsAtPlace_30 rfl qp_2_113 (hsr.1) (rfl) (by omega) (by omega) (Nat.le_of_ble_eq_true rfl) (rfl) ?_
      refine ex_aload_n dX3_standsAtPlace_33 rfl rfl ?_
      refine ex_getR (b := 3) dX3_standsAtPlace_34 rfl qp_2_18 rfl rfl ?_
      refine ex_aload_n dX3_standsAtPlace_37 rfl rfl ?_
      refine ex_getI (s := 3) (x := nI p) dX3_standsAtPlace_38 rfl qp_2_56 rfl rfl (h3) ?_
      refine ex_iload_n dX3_standsAtPlace_41 rfl rfl ?_
      refine ex_iadd (z := nI (p + k)) dX3_standsAtPlace_42 rfl (nI_add p k) ?_
      refine ex_iaload (k := p + k) (x := nI (t.2 (p + k))) dX3_standsAtPlace_43 rfl rfl (rfl) (by omega) (by decide) (ht.2 _ (by omega)) ?_
      refine ex_icmp_eq (q := 49) (q2 := 47) dX3_standsAtPlace_44 rfl rfl (fun hh => absurd hh (c)) (fun _ => ?_)
      refine ex_iconst (x := 0) dX3_standsAtPlace_47 rfl rfl ?_
      exact ex_zret dX3_standsAtPlace_48 rfl (by decide) rfl rfl

set_option maxRecDepth 8000 in
set_option maxHeartbeats 2000000 in
theorem c_standsAtPlace {ext : List qm_LE} {σ : qm_St} {t : gt_T} (hk : gt_ok t) (ht : TPR σ t) {p e : Nat} (h2 : qm_rI σ 2 = nI e) (h3 : qm_rI σ 3 = nI p) (hpe : p ≤ e) (he : e ≤ t.1) {w : Nat} (hw : w < 12) : Ok (qm_layT ++ ext) 1 mX3_standsAtPlace [.ref 0, .ref (1001 + w)] σ (some (.int (b2i (mtw t p e w)))) σ := by
  have h160 := hk.1
  have hsr := sref_w w hw
  refine Ok.of (ls := [some (.ref 0), some (.ref (1001 + w)), none]) (Nat.le_of_ble_eq_true rfl) rfl ?_
  by_cases c : (wst w).length = e - p
  · rw [mtw_all c]
    refine ex_aload_n dX3_standsAtPlace_0 rfl rfl ?_
    refine ex_slen (x := nI (wst w).length) dX3_standsAtPlace_1 rfl qp_2_107 (hsr.1) (Nat.le_of_ble_eq_true rfl) (rfl) ?_
    refine ex_aload_n dX3_standsAtPlace_4 rfl rfl ?_
    refine ex_getI (s := 2) (x := nI e) dX3_standsAtPlace_5 rfl qp_2_34 rfl rfl (h2) ?_
    refine ex_aload_n dX3_standsAtPlace_8 rfl rfl ?_
    refine ex_getI (s := 3) (x := nI p) dX3_standsAtPlace_9 rfl qp_2_56 rfl rfl (h3) ?_
    refine ex_isub (z := nI (e - p)) dX3_standsAtPlace_12 rfl (pk_sub (by omega)) ?_
    refine ex_icmp_eq (q := 18) (q2 := 16) dX3_standsAtPlace_13 rfl rfl (fun _ => ?_) (fun hh => absurd (congrArg nI (show ((wst w).length) = (e - p) by omega)) hh)
    refine ex_iconst (x := 0) dX3_standsAtPlace_18 rfl rfl ?_
    refine ex_istore_n (ls' := [some (.ref 0), some (.ref (1001 + w)), some (.int 0)]) dX3_standsAtPlace_19 rfl (Nat.le_of_ble_eq_true rfl) rfl rfl ?_
    exact l_stands hk ht h2 h3 hpe he hw c (e - p) 0 (by omega)
  · rw [mtw_len c]
    refine ex_aload_n dX3_standsAtPlace_0 rfl rfl ?_
    refine ex_slen (x := nI (wst w).length) dX3_standsAtPlace_1 rfl qp_2_107 (hsr.1) (Nat.le_of_ble_eq_true rfl) (rfl) ?_
    refine ex_aload_n dX3_standsAtPlace_4 rfl rfl ?_
    refine ex_getI (s := 2) (x := nI e) dX3_standsAtPlace_5 rfl qp_2_34 rfl rfl (h2) ?_
    refine ex_aload_n dX3_standsAtPlace_8 rfl rfl ?_
    refine ex_getI (s := 3) (x := nI p) dX3_standsAtPlace_9 rfl qp_2_56 rfl rfl (h3) ?_
    refine ex_isub (z := nI (e - p)) dX3_standsAtPlace_12 rfl (pk_sub (by omega)) ?_
    refine ex_icmp_eq (q := 18) (q2 := 16) dX3_standsAtPlace_13 rfl rfl (fun hh => absurd hh (fun zz => c ((nI_eq (by omega) (by omega)).mp zz))) (fun _ => ?_)
    refine ex_iconst (x := 0) dX3_standsAtPlace_16 rfl rfl ?_
    exact ex_zret dX3_standsAtPlace_17 rfl (by decide) rfl rfl

set_option maxRecDepth 8000 in
set_option maxHeartbeats 2000000 in
theorem l_words {ext : List qm_LE} {σ : qm_St} {t : gt_T} (hk : gt_ok t) (ht : TPR σ t) {p e : Nat} (h2 : qm_rI σ 2 = nI e) (h3 : qm_rI σ 3 = nI p) (h6 : qm_rI σ 6 = -1) (hpe : p ≤ e) (he : e ≤ t.1) : ∀ (r w : Nat), w + r = 12 → ∃ σ', Ex (qm_layT ++ ext) 3 mX3_readWord 41 [some (.ref 0), some (.int (nI w))] [] σ none σ' ∧ (qm_rI σ' 3 = nI p ∧ qm_rI σ' 4 = nI (if wxf t p e r w < 6 then 2 else if wxf t p e r w < 12 then wxf t p e r w - 2 else 3) ∧ (wxf t p e r w < 12 → qm_rI σ' 5 = nI (wxf t p e r w) ∧ qm_rI σ' 6 = -1 ∧ qm_rI σ' 2 = nI e) ∧ (wxf t p e r w = 12 → qm_rI σ' 6 = nI p)) ∧ sm σ σ' 4 7 0 0 := by
  have h160 := hk.1
  intro r
  induction r with
  | zero =>
    intro w hw
    have e12 : w = 12 := by omega
    subst e12
    refine ⟨_, ?_, ⟨?_, ?_, fun z => (by rw [wxf] at z; omega), fun _ => ?_⟩, ((sm.rf σ 4 7 0 0).wI (s := 6) (nI p) (by omega)).wI (s := 4) 3 (by omega)⟩
    · refine ex_iload_n dX3_readWord_41 rfl rfl ?_
      refine ex_bipush (x := 12) dX3_readWord_42 rfl rfl ?_
      refine ex_icmp_ge (q := 90) (q2 := 47) dX3_readWord_44 rfl rfl (fun _ => ?_) (fun hh => absurd (by decide) hh)
      refine ex_aload_n dX3_readWord_90 rfl rfl ?_
      refine ex_callV (a := 0) (rest := []) dX3_readWord_91 rfl qp_2_53 rfl rfl rfl rfl rfl (Nat.le_of_ble_eq_true rfl) (c_fail_n h3 h6) (Nat.le_of_ble_eq_true rfl) ?_
      show Ex (qm_layT ++ ext) _ mX3_readWord 94 [some (.ref 0), some (.int 12)] [] (qm_wI (qm_wI σ 6 (nI p)) 4 3) _ _
      exact ex_vret dX3_readWord_94 rfl rfl rfl
    · rw [rI_wI, if_neg (by decide), rI_wI, if_neg (by decide)]; exact h3
    · rw [rI_wI, if_pos rfl, wxf]; rfl
    · rw [rI_wI, if_neg (by decide), rI_wI, if_pos rfl]
  | succ r ih =>
    intro w hw
    have hw12 : w < 12 := by omega
    have hW := c_word (ext := ext) σ hw12
    have hS := c_standsAtPlace (ext := ext) hk ht h2 h3 hpe he hw12
    by_cases c : mtw t p e w = true
    · rw [show wxf t p e (r + 1) w = w by rw [wxf, if_pos c]]
      by_cases c6 : w < 6
      · refine ⟨_, ?_, ⟨?_, ?_, fun _ => ⟨?_, ?_, ?_⟩, fun z => by omega⟩, ((sm.rf σ 4 7 0 0).wI (s := 4) (nI 2) (by omega)).wI (s := 5) (nI w) (by omega)⟩
        · refine ex_iload_n dX3_readWord_41 rfl rfl ?_
          refine ex_bipush (x := 12) dX3_readWord_42 rfl rfl ?_
          refine ex_icmp_ge (q := 90) (q2 := 47) dX3_readWord_44 rfl rfl (fun hh => absurd hh (nI_ge (a := w) (b := 12) (by omega) (by omega))) (fun _ => ?_)
          refine ex_aload_n dX3_readWord_47 rfl rfl ?_
          refine ex_iload_n dX3_readWord_48 rfl rfl ?_
          refine ex_callS (rest := [.ref 0]) dX3_readWord_49 rfl qp_2_99 rfl rfl rfl (Nat.le_of_ble_eq_true rfl) (hW) (Nat.le_of_ble_eq_true rfl) ?_
          show Ex (qm_layT ++ ext) _ mX3_readWord 52 [some (.ref 0), some (.int (nI w))] [.ref (1001 + w), .ref 0] σ _ _
          refine ex_callV (a := 0) (rest := []) dX3_readWord_52 rfl qp_2_103 rfl rfl rfl rfl rfl (Nat.le_of_ble_eq_true rfl) (hS) (Nat.le_of_ble_eq_true rfl) ?_
          show Ex (qm_layT ++ ext) _ mX3_readWord 55 [some (.ref 0), some (.int (nI w))] [.int (b2i (mtw t p e w))] σ _ _
          refine ex_if_eq (q := 84) (q2 := 58) dX3_readWord_55 rfl rfl (fun hh => absurd hh (b2i_n0.mpr (c))) (fun _ => ?_)
          refine ex_aload_n dX3_readWord_58 rfl rfl ?_
          refine ex_iload_n dX3_readWord_59 rfl rfl ?_
          refine ex_bipush (x := 6) dX3_readWord_60 rfl rfl ?_
          refine ex_icmp_ge (q := 69) (q2 := 65) dX3_readWord_62 rfl rfl (fun hh => absurd hh (nI_ge (a := w) (b := 6) (by omega) (by omega))) (fun _ => ?_)
          refine ex_iconst (x := 2) dX3_readWord_65 rfl rfl ?_
          refine ex_goto (q := 75) dX3_readWord_66 rfl ?_
          refine ex_put (σ' := qm_wI σ 4 2) dX3_readWord_75 rfl qp_2_50 rfl rfl (Or.inl rfl) rfl ?_
          refine ex_aload_n dX3_readWord_78 rfl rfl ?_
          refine ex_iload_n dX3_readWord_79 rfl rfl ?_
          refine ex_put (σ' := qm_wI (qm_wI σ 4 2) 5 (nI w)) dX3_readWord_80 rfl qp_2_81 rfl rfl (Or.inl rfl) rfl ?_
          exact ex_vret dX3_readWord_83 rfl rfl rfl
        · rw [rI_wI, if_neg (by decide), rI_wI, if_neg (by decide)]; exact h3
        · rw [rI_wI, if_neg (by decide), rI_wI, if_pos rfl, if_pos c6]
        · rw [rI_wI, if_pos rfl]
        · rw [rI_wI, if_neg (by decide), rI_wI, if_neg (by decide)]; exact h6
        · rw [rI_wI, if_neg (by decide), rI_wI, if_neg (by decide)]; exact h2
      · refine ⟨_, ?_, ⟨?_, ?_, fun _ => ⟨?_, ?_, ?_⟩, fun z => by omega⟩, ((sm.rf σ 4 7 0 0).wI (s := 4) (nI (w - 2)) (by omega)).wI (s := 5) (nI w) (by omega)⟩
        · refine ex_iload_n dX3_readWord_41 rfl rfl ?_
          refine ex_bipush (x := 12) dX3_readWord_42 rfl rfl ?_
          refine ex_icmp_ge (q := 90) (q2 := 47) dX3_readWord_44 rfl rfl (fun hh => absurd hh (nI_ge (a := w) (b := 12) (by omega) (by omega))) (fun _ => ?_)
          refine ex_aload_n dX3_readWord_47 rfl rfl ?_
          refine ex_iload_n dX3_readWord_48 rfl rfl ?_
          refine ex_callS (rest := [.ref 0]) dX3_readWord_49 rfl qp_2_99 rfl rfl rfl (Nat.le_of_ble_eq_true rfl) (hW) (Nat.le_of_ble_eq_true rfl) ?_
          show Ex (qm_layT ++ ext) _ mX3_readWord 52 [some (.ref 0), some (.int (nI w))] [.ref (1001 + w), .ref 0] σ _ _
          refine ex_callV (a := 0) (rest := []) dX3_readWord_52 rfl qp_2_103 rfl rfl rfl rfl rfl (Nat.le_of_ble_eq_true rfl) (hS) (Nat.le_of_ble_eq_true rfl) ?_
          show Ex (qm_layT ++ ext) _ mX3_readWord 55 [some (.ref 0), some (.int (nI w))] [.int (b2i (mtw t p e w))] σ _ _
          refine ex_if_eq (q := 84) (q2 := 58) dX3_readWord_55 rfl rfl (fun hh => absurd hh (b2i_n0.mpr (c))) (fun _ => ?_)
          refine ex_aload_n dX3_readWord_58 rfl rfl ?_
          refine ex_iload_n dX3_readWord_59 rfl rfl ?_
          refine ex_bipush (x := 6) dX3_readWord_60 rfl rfl ?_
          refine ex_icmp_ge (q := 69) (q2 := 65) dX3_readWord_62 rfl rfl (fun _ => ?_) (fun hh => absurd (nI_le (a := 6) (b := w) (by omega) (by omega)) hh)
          refine ex_iconst (x := 4) dX3_readWord_69 rfl rfl ?_
          refine ex_iload_n dX3_readWord_70 rfl rfl ?_
          refine ex_iadd (z := nI (4 + w)) dX3_readWord_71 rfl (nI_add 4 w) ?_
          refine ex_bipush (x := 6) dX3_readWord_72 rfl rfl ?_
          refine ex_isub (z := nI (w - 2)) dX3_readWord_74 rfl ((by rw [show w - 2 = 4 + w - 6 by omega]; exact pk_sub (b := 6) (by omega))) ?_
          refine ex_put (σ' := qm_wI σ 4 (nI (w - 2))) dX3_readWord_75 rfl qp_2_50 rfl rfl (Or.inl rfl) rfl ?_
          refine ex_aload_n dX3_readWord_78 rfl rfl ?_
          refine ex_iload_n dX3_readWord_79 rfl rfl ?_
          refine ex_put (σ' := qm_wI (qm_wI σ 4 (nI (w - 2))) 5 (nI w)) dX3_readWord_80 rfl qp_2_81 rfl rfl (Or.inl rfl) rfl ?_
          exact ex_vret dX3_readWord_83 rfl rfl rfl
        · rw [rI_wI, if_neg (by decide), rI_wI, if_neg (by decide)]; exact h3
        · rw [rI_wI, if_neg (by decide), rI_wI, if_pos rfl, if_neg c6, if_pos hw12]
        · rw [rI_wI, if_pos rfl]
        · rw [rI_wI, if_neg (by decide), rI_wI, if_neg (by decide)]; exact h6
        · rw [rI_wI, if_neg (by decide), rI_wI, if_neg (by decide)]; exact h2
    · obtain ⟨σ', hE, hP, hs⟩ := ih (w + 1) (by omega)
      rw [show wxf t p e (r + 1) w = wxf t p e r (w + 1) by rw [wxf, if_neg c]]
      refine ⟨σ', ?_, hP, hs⟩
      refine ex_iload_n dX3_readWord_41 rfl rfl ?_
      refine ex_bipush (x := 12) dX3_readWord_42 rfl rfl ?_
      refine ex_icmp_ge (q := 90) (q2 := 47) dX3_readWord_44 rfl rfl (fun hh => absurd hh (nI_ge (a := w) (b := 12) (by omega) (by omega))) (fun _ => ?_)
      refine ex_aload_n dX3_readWord_47 rfl rfl ?_
      refine ex_iload_n dX3_readWord_48 rfl rfl ?_
      refine ex_callS (rest := [.ref 0]) dX3_readWord_49 rfl qp_2_99 rfl rfl rfl (Nat.le_of_ble_eq_true rfl) (hW) (Nat.le_of_ble_eq_true rfl) ?_
      show Ex (qm_layT ++ ext) _ mX3_readWord 52 [some (.ref 0), some (.int (nI w))] [.ref (1001 + w), .ref 0] σ _ _
      refine ex_callV (a := 0) (rest := []) dX3_readWord_52 rfl qp_2_103 rfl rfl rfl rfl rfl (Nat.le_of_ble_eq_true rfl) (hS) (Nat.le_of_ble_eq_true rfl) ?_
      show Ex (qm_layT ++ ext) _ mX3_readWord 55 [some (.ref 0), some (.int (nI w))] [.int (b2i (mtw t p e w))] σ _ _
      refine ex_if_eq (q := 84) (q2 := 58) dX3_readWord_55 rfl rfl (fun _ => ?_) (fun hh => absurd (b2i_0.mpr (by simpa using c)) hh)
      refine ex_iinc (y := nI (w + 1)) (ls' := [some (.ref 0), some (.int (nI (w + 1)))]) dX3_readWord_84 rfl rfl rfl (nI_add w 1) rfl ?_
      refine ex_goto (q := 41) dX3_readWord_87 rfl ?_
      exact hE

set_option maxRecDepth 8000 in
set_option maxHeartbeats 2000000 in
theorem l_letters {ext : List qm_LE} {t : gt_T} (hk : gt_ok t) {p : Nat} : ∀ (k a : Nat) (σ1 : qm_St), a + k = t.1 → p ≤ a → TPR σ1 t → qm_rI σ1 2 = nI a → qm_rI σ1 3 = nI p → qm_rI σ1 6 = -1 → ∃ σ', Ex (qm_layT ++ ext) 3 mX3_readWord 0 [some (.ref 0), none] [] σ1 none σ' ∧ (qm_rI σ' 3 = nI p ∧ qm_rI σ' 4 = nI (if wxf t p (rn tIsL t.2 k a) 12 0 < 6 then 2 else if wxf t p (rn tIsL t.2 k a) 12 0 < 12 then wxf t p (rn tIsL t.2 k a) 12 0 - 2 else 3) ∧ (wxf t p (rn tIsL t.2 k a) 12 0 < 12 → qm_rI σ' 5 = nI (wxf t p (rn tIsL t.2 k a) 12 0) ∧ qm_rI σ' 6 = -1 ∧ qm_rI σ' 2 = nI (rn tIsL t.2 k a)) ∧ (wxf t p (rn tIsL t.2 k a) 12 0 = 12 → qm_rI σ' 6 = nI p)) ∧ sm σ1 σ' 2 7 0 0 := by
  have h160 := hk.1
  intro k
  induction k with
  | zero =>
    intro a σ1 ha hpa ht h2 h3 h6
    obtain ⟨σ', hE, hP, hs⟩ := l_words (ext := ext) hk ht h2 h3 h6 hpa (by omega) 12 0 (by omega)
    refine ⟨σ', ?_, hP, hs.wid (by omega) (by omega)⟩
    refine ex_aload_n dX3_readWord_0 rfl rfl ?_
    refine ex_getI (s := 2) (x := nI a) dX3_readWord_1 rfl qp_2_34 rfl rfl (h2) ?_
    refine ex_aload_n dX3_readWord_4 rfl rfl ?_
    refine ex_getI (s := 0) (x := nI t.1) dX3_readWord_5 rfl qp_2_27 rfl rfl (ht.1) ?_
    refine ex_icmp_ge (q := 39) (q2 := 11) dX3_readWord_8 rfl rfl (fun _ => ?_) (fun hh => absurd (nI_le (a := t.1) (b := a) (by omega) (by omega)) hh)
    refine ex_iconst (x := 0) dX3_readWord_39 rfl rfl ?_
    refine ex_istore_n (ls' := [some (.ref 0), some (.int 0)]) dX3_readWord_40 rfl (Nat.le_of_ble_eq_true rfl) rfl rfl ?_
    exact hE
  | succ k ih =>
    intro a σ1 ha hpa ht h2 h3 h6
    by_cases c : tIsL (t.2 a) = true
    · have hg : sm σ1 (qm_wI σ1 2 (nI (a + 1))) 2 3 0 0 := (sm.rf σ1 2 3 0 0).wI _ (by omega)
      obtain ⟨σ', hE, hP, hs⟩ := ih (a + 1) (qm_wI σ1 2 (nI (a + 1))) (by omega) (by omega) (ht.sm hg (by omega) (by omega)) (by rw [rI_wI, if_pos rfl]) (by rw [rI_wI, if_neg (by decide)]; exact h3) (by rw [rI_wI, if_neg (by decide)]; exact h6)
      rw [show rn tIsL t.2 (k + 1) a = rn tIsL t.2 k (a + 1) by rw [rn, if_pos c]]
      refine ⟨σ', ?_, hP, (hg.wid (by omega) (by omega)).tr hs⟩
      refine ex_aload_n dX3_readWord_0 rfl rfl ?_
      refine ex_getI (s := 2) (x := nI a) dX3_readWord_1 rfl qp_2_34 rfl rfl (h2) ?_
      refine ex_aload_n dX3_readWord_4 rfl rfl ?_
      refine ex_getI (s := 0) (x := nI t.1) dX3_readWord_5 rfl qp_2_27 rfl rfl (ht.1) ?_
      refine ex_icmp_ge (q := 39) (q2 := 11) dX3_readWord_8 rfl rfl (fun hh => absurd hh (nI_ge (a := a) (b := t.1) (by omega) (by omega))) (fun _ => ?_)
      refine ex_aload_n dX3_readWord_11 rfl rfl ?_
      refine ex_getR (b := 3) dX3_readWord_12 rfl qp_2_18 rfl rfl ?_
      refine ex_aload_n dX3_readWord_15 rfl rfl ?_
      refine ex_getI (s := 2) (x := nI a) dX3_readWord_16 rfl qp_2_34 rfl rfl (h2) ?_
      refine ex_iaload (k := a) (x := nI (t.2 a)) dX3_readWord_19 rfl rfl (rfl) (by omega) (by decide) (ht.2 _ (by omega)) ?_
      refine ex_callS (rest := []) dX3_readWord_20 rfl qp_2_84 rfl rfl rfl (Nat.le_of_ble_eq_true rfl) (c_isLetter (ext := ext) _ (hk.2 a (by omega))) (Nat.le_of_ble_eq_true rfl) ?_
      show Ex (qm_layT ++ ext) _ mX3_readWord 23 [some (.ref 0), none] [.int (b2i (tIsL (t.2 a)))] σ1 _ _
      refine ex_if_eq (q := 39) (q2 := 26) dX3_readWord_23 rfl rfl (fun hh => absurd hh (b2i_n0.mpr (c))) (fun _ => ?_)
      refine ex_aload_n dX3_readWord_26 rfl rfl ?_
      refine ex_dup dX3_readWord_27 rfl rfl ?_
      refine ex_getI (s := 2) (x := nI a) dX3_readWord_28 rfl qp_2_34 rfl rfl (h2) ?_
      refine ex_iconst (x := 1) dX3_readWord_31 rfl rfl ?_
      refine ex_iadd (z := nI (a + 1)) dX3_readWord_32 rfl (nI_add a 1) ?_
      refine ex_put (σ' := qm_wI σ1 2 (nI (a + 1))) dX3_readWord_33 rfl qp_2_34 rfl rfl (Or.inl rfl) rfl ?_
      refine ex_goto (q := 0) dX3_readWord_36 rfl ?_
      exact hE
    · obtain ⟨σ', hE, hP, hs⟩ := l_words (ext := ext) hk ht h2 h3 h6 hpa (by omega) 12 0 (by omega)
      rw [show rn tIsL t.2 (k + 1) a = a by rw [rn, if_neg c]]
      refine ⟨σ', ?_, hP, hs.wid (by omega) (by omega)⟩
      refine ex_aload_n dX3_readWord_0 rfl rfl ?_
      refine ex_getI (s := 2) (x := nI a) dX3_readWord_1 rfl qp_2_34 rfl rfl (h2) ?_
      refine ex_aload_n dX3_readWord_4 rfl rfl ?_
      refine ex_getI (s := 0) (x := nI t.1) dX3_readWord_5 rfl qp_2_27 rfl rfl (ht.1) ?_
      refine ex_icmp_ge (q := 39) (q2 := 11) dX3_readWord_8 rfl rfl (fun hh => absurd hh (nI_ge (a := a) (b := t.1) (by omega) (by omega))) (fun _ => ?_)
      refine ex_aload_n dX3_readWord_11 rfl rfl ?_
      refine ex_getR (b := 3) dX3_readWord_12 rfl qp_2_18 rfl rfl ?_
      refine ex_aload_n dX3_readWord_15 rfl rfl ?_
      refine ex_getI (s := 2) (x := nI a) dX3_readWord_16 rfl qp_2_34 rfl rfl (h2) ?_
      refine ex_iaload (k := a) (x := nI (t.2 a)) dX3_readWord_19 rfl rfl (rfl) (by omega) (by decide) (ht.2 _ (by omega)) ?_
      refine ex_callS (rest := []) dX3_readWord_20 rfl qp_2_84 rfl rfl rfl (Nat.le_of_ble_eq_true rfl) (c_isLetter (ext := ext) _ (hk.2 a (by omega))) (Nat.le_of_ble_eq_true rfl) ?_
      show Ex (qm_layT ++ ext) _ mX3_readWord 23 [some (.ref 0), none] [.int (b2i (tIsL (t.2 a)))] σ1 _ _
      refine ex_if_eq (q := 39) (q2 := 26) dX3_readWord_23 rfl rfl (fun _ => ?_) (fun hh => absurd (b2i_0.mpr (by simpa using c)) hh)
      refine ex_iconst (x := 0) dX3_readWord_39 rfl rfl ?_
      refine ex_istore_n (ls' := [some (.ref 0), some (.int 0)]) dX3_readWord_40 rfl (Nat.le_of_ble_eq_true rfl) rfl rfl ?_
      exact hE

set_option maxRecDepth 8000 in
set_option maxHeartbeats 2000000 in
theorem c_readWord {ext : List qm_LE} {t : gt_T} (hk : gt_ok t) {σ : qm_St} {p : Nat} (hp : p ≤ t.1) (ht : TPR σ t) (h2 : qm_rI σ 2 = nI p) (h3 : qm_rI σ 3 = nI p) (h6 : qm_rI σ 6 = -1) : ∃ σ', Ok (qm_layT ++ ext) 3 mX3_readWord [.ref 0] σ none σ' ∧ LXP σ' (lxW t p) ∧ sm σ σ' 2 7 0 0 := by
  obtain ⟨σ', hE, ⟨g1, g2, g3, g4⟩, hs⟩ := l_letters (ext := ext) hk (t.1 - p) p σ (by omega) (Nat.le_refl p) ht h2 h3 h6
  refine ⟨σ', Ok.of (ls := [some (.ref 0), none]) (Nat.le_of_ble_eq_true rfl) rfl hE, ?_, hs⟩
  have hle := wxf_le t p (lxe t tIsL p) 12 0
  have e0 : wxf t p (rn tIsL t.2 (t.1 - p) p) 12 0 = wx t p (lxe t tIsL p) := rfl
  rw [e0] at g2 g3 g4
  have hw12 : wx t p (lxe t tIsL p) ≤ 12 := hle.2.1
  refine ⟨g1, g2, fun z => ?_, fun z => ?_, fun z => ?_⟩
  · refine (g3 ?_).1
    have z2 : (if wx t p (lxe t tIsL p) < 6 then 2 else if wx t p (lxe t tIsL p) < 12 then wx t p (lxe t tIsL p) - 2 else 3) = 1 ∨ (if wx t p (lxe t tIsL p) < 6 then 2 else if wx t p (lxe t tIsL p) < 12 then wx t p (lxe t tIsL p) - 2 else 3) = 2 := z
    rcases Nat.lt_or_ge (wx t p (lxe t tIsL p)) 12 with q | q
    · exact q
    · rw [if_neg (by omega), if_neg (by omega)] at z2; omega
  · refine g4 ?_
    have z2 : (if wx t p (lxe t tIsL p) < 6 then 2 else if wx t p (lxe t tIsL p) < 12 then wx t p (lxe t tIsL p) - 2 else 3) = 3 := z
    split at z2
    · omega
    · split at z2 <;> omega
  · have z2 : ¬ (if wx t p (lxe t tIsL p) < 6 then 2 else if wx t p (lxe t tIsL p) < 12 then wx t p (lxe t tIsL p) - 2 else 3) = 3 := z
    have q : wx t p (lxe t tIsL p) < 12 := by
      rcases Nat.lt_or_ge (wx t p (lxe t tIsL p)) 12 with q | q
      · exact q
      · rw [if_neg (by omega), if_neg (by omega)] at z2; exact absurd rfl z2
    exact (g3 q).2

set_option maxRecDepth 8000 in
set_option maxHeartbeats 2000000 in
theorem l_digits3 {ext : List qm_LE} {t : gt_T} (hk : gt_ok t) {p : Nat} : ∀ (k a : Nat) (σ1 : qm_St), a + k = t.1 → p ≤ a → TPR σ1 t → qm_rI σ1 2 = nI a → qm_rI σ1 3 = nI p → qm_rI σ1 4 = 1 → qm_rI σ1 5 = nI (nv t p (a - p)) → qm_rI σ1 6 = -1 → ∃ σ', Ex (qm_layT ++ ext) 3 mX3_readNumber 10 [some (.ref 0)] [] σ1 none σ' ∧ (qm_rI σ' 3 = nI p ∧ qm_rI σ' 4 = nI (if (rn tIsD t.2 k a) - p ≤ 4 then 1 else 3) ∧ ((rn tIsD t.2 k a) - p ≤ 4 → qm_rI σ' 5 = nI (nv t p ((rn tIsD t.2 k a) - p)) ∧ qm_rI σ' 6 = -1 ∧ qm_rI σ' 2 = nI (rn tIsD t.2 k a)) ∧ (¬ (rn tIsD t.2 k a) - p ≤ 4 → qm_rI σ' 6 = nI p)) ∧ sm σ1 σ' 2 7 0 0 := by
  have h160 := hk.1
  intro k
  induction k with
  | zero =>
    intro a σ1 ha hpa ht h2 h3 h4 h5 h6
    rw [show rn tIsD t.2 0 a = a from rfl]
    by_cases c4 : a - p ≤ 4
    · refine ⟨σ1, ?_, ⟨h3, (by rw [if_pos c4]; exact h4), fun _ => ⟨h5, h6, h2⟩, fun z => absurd c4 z⟩, sm.rf _ _ _ _ _⟩
      refine ex_aload_n dX3_readNumber_10 rfl rfl ?_
      refine ex_getI (s := 2) (x := nI a) dX3_readNumber_11 rfl qp_2_34 rfl rfl (h2) ?_
      refine ex_aload_n dX3_readNumber_14 rfl rfl ?_
      refine ex_getI (s := 0) (x := nI t.1) dX3_readNumber_15 rfl qp_2_27 rfl rfl (ht.1) ?_
      refine ex_icmp_ge (q := 73) (q2 := 21) dX3_readNumber_18 rfl rfl (fun _ => ?_) (fun hh => absurd (nI_le (a := t.1) (b := a) (by omega) (by omega)) hh)
      refine ex_aload_n dX3_readNumber_73 rfl rfl ?_
      refine ex_getI (s := 2) (x := nI a) dX3_readNumber_74 rfl qp_2_34 rfl rfl (h2) ?_
      refine ex_aload_n dX3_readNumber_77 rfl rfl ?_
      refine ex_getI (s := 3) (x := nI p) dX3_readNumber_78 rfl qp_2_56 rfl rfl (h3) ?_
      refine ex_isub (z := nI (a - p)) dX3_readNumber_81 rfl (pk_sub (by omega)) ?_
      refine ex_iconst (x := 4) dX3_readNumber_82 rfl rfl ?_
      refine ex_icmp_le (q := 90) (q2 := 86) dX3_readNumber_83 rfl rfl (fun _ => ?_) (fun hh => absurd (nI_le (a := (a - p)) (b := 4) (by omega) (by omega)) hh)
      exact ex_vret dX3_readNumber_90 rfl rfl rfl
    · refine ⟨_, ?_, ⟨?_, ?_, fun z => absurd z c4, fun _ => ?_⟩, ((sm.rf σ1 2 7 0 0).wI (s := 6) (nI p) (by omega)).wI (s := 4) 3 (by omega)⟩
      · refine ex_aload_n dX3_readNumber_10 rfl rfl ?_
        refine ex_getI (s := 2) (x := nI a) dX3_readNumber_11 rfl qp_2_34 rfl rfl (h2) ?_
        refine ex_aload_n dX3_readNumber_14 rfl rfl ?_
        refine ex_getI (s := 0) (x := nI t.1) dX3_readNumber_15 rfl qp_2_27 rfl rfl (ht.1) ?_
        refine ex_icmp_ge (q := 73) (q2 := 21) dX3_readNumber_18 rfl rfl (fun _ => ?_) (fun hh => absurd (nI_le (a := t.1) (b := a) (by omega) (by omega)) hh)
        refine ex_aload_n dX3_readNumber_73 rfl rfl ?_
        refine ex_getI (s := 2) (x := nI a) dX3_readNumber_74 rfl qp_2_34 rfl rfl (h2) ?_
        refine ex_aload_n dX3_readNumber_77 rfl rfl ?_
        refine ex_getI (s := 3) (x := nI p) dX3_readNumber_78 rfl qp_2_56 rfl rfl (h3) ?_
        refine ex_isub (z := nI (a - p)) dX3_readNumber_81 rfl (pk_sub (by omega)) ?_
        refine ex_iconst (x := 4) dX3_readNumber_82 rfl rfl ?_
        refine ex_icmp_le (q := 90) (q2 := 86) dX3_readNumber_83 rfl rfl (fun hh => absurd hh (nI_ge (a := 4) (b := (a - p)) (by omega) (by omega))) (fun _ => ?_)
        refine ex_aload_n dX3_readNumber_86 rfl rfl ?_
        refine ex_callV (a := 0) (rest := []) dX3_readNumber_87 rfl qp_2_53 rfl rfl rfl rfl rfl (Nat.le_of_ble_eq_true rfl) (c_fail_n h3 h6) (Nat.le_of_ble_eq_true rfl) ?_
        show Ex (qm_layT ++ ext) _ mX3_readNumber 90 [some (.ref 0)] [] (qm_wI (qm_wI σ1 6 (nI p)) 4 3) _ _
        exact ex_vret dX3_readNumber_90 rfl rfl rfl
      · rw [rI_wI, if_neg (by decide), rI_wI, if_neg (by decide)]; exact h3
      · rw [rI_wI, if_pos rfl, if_neg c4]; rfl
      · rw [rI_wI, if_neg (by decide), rI_wI, if_pos rfl]
  | succ k ih =>
    intro a σ1 ha hpa ht h2 h3 h4 h5 h6
    by_cases c : tIsD (t.2 a) = true
    · have hd : 48 ≤ t.2 a := by
        have z := c
        unfold tIsD at z
        rw [Bool.and_eq_true] at z
        exact of_decide_eq_true z.1
      have env : nv t p (a + 1 - p) = nv t p (a - p) * 10 + t.2 a - 48 := by
        rw [show a + 1 - p = (a - p) + 1 by omega, nv, show p + (a - p) = a by omega]
      have hg : sm σ1 (qm_wI (qm_wI σ1 5 (nI (nv t p (a - p) * 10 + t.2 a - 48))) 2 (nI (a + 1))) 2 7 0 0 := ((sm.rf σ1 2 7 0 0).wI (s := 5) _ (by omega)).wI (s := 2) _ (by omega)
      obtain ⟨σ', hE, hP, hs⟩ := ih (a + 1) (qm_wI (qm_wI σ1 5 (nI (nv t p (a - p) * 10 + t.2 a - 48))) 2 (nI (a + 1))) (by omega) (by omega) (ht.sm hg (by omega) (by omega)) (by rw [rI_wI, if_pos rfl]) (by rw [rI_wI, if_neg (by decide), rI_wI, if_neg (by decide)]; exact h3) (by rw [rI_wI, if_neg (by decide), rI_wI, if_neg (by decide)]; exact h4) (by rw [rI_wI, if_neg (by decide), rI_wI, if_pos rfl, env]) (by rw [rI_wI, if_neg (by decide), rI_wI, if_neg (by decide)]; exact h6)
      rw [show rn tIsD t.2 (k + 1) a = rn tIsD t.2 k (a + 1) by rw [rn, if_pos c]]
      refine ⟨σ', ?_, hP, hg.tr hs⟩
      refine ex_aload_n dX3_readNumber_10 rfl rfl ?_
      refine ex_getI (s := 2) (x := nI a) dX3_readNumber_11 rfl qp_2_34 rfl rfl (h2) ?_
      refine ex_aload_n dX3_readNumber_14 rfl rfl ?_
      refine ex_getI (s := 0) (x := nI t.1) dX3_readNumber_15 rfl qp_2_27 rfl rfl (ht.1) ?_
      refine ex_icmp_ge (q := 73) (q2 := 21) dX3_readNumber_18 rfl rfl (fun hh => absurd hh (nI_ge (a := a) (b := t.1) (by omega) (by omega))) (fun _ => ?_)
      refine ex_aload_n dX3_readNumber_21 rfl rfl ?_
      refine ex_getR (b := 3) dX3_readNumber_22 rfl qp_2_18 rfl rfl ?_
      refine ex_aload_n dX3_readNumber_25 rfl rfl ?_
      refine ex_getI (s := 2) (x := nI a) dX3_readNumber_26 rfl qp_2_34 rfl rfl (h2) ?_
      refine ex_iaload (k := a) (x := nI (t.2 a)) dX3_readNumber_29 rfl rfl (rfl) (by omega) (by decide) (ht.2 _ (by omega)) ?_
      refine ex_callS (rest := []) dX3_readNumber_30 rfl qp_2_90 rfl rfl rfl (Nat.le_of_ble_eq_true rfl) (c_isDigit (ext := ext) _ (hk.2 a (by omega))) (Nat.le_of_ble_eq_true rfl) ?_
      show Ex (qm_layT ++ ext) _ mX3_readNumber 33 [some (.ref 0)] [.int (b2i (tIsD (t.2 a)))] σ1 _ _
      refine ex_if_eq (q := 73) (q2 := 36) dX3_readNumber_33 rfl rfl (fun hh => absurd hh (b2i_n0.mpr (c))) (fun _ => ?_)
      refine ex_aload_n dX3_readNumber_36 rfl rfl ?_
      refine ex_aload_n dX3_readNumber_37 rfl rfl ?_
      refine ex_getI (s := 5) (x := nI (nv t p (a - p))) dX3_readNumber_38 rfl qp_2_81 rfl rfl (h5) ?_
      refine ex_bipush (x := 10) dX3_readNumber_41 rfl rfl ?_
      refine ex_imul (z := nI (nv t p (a - p) * 10)) dX3_readNumber_43 rfl (pk_mul _ 10) ?_
      refine ex_aload_n dX3_readNumber_44 rfl rfl ?_
      refine ex_getR (b := 3) dX3_readNumber_45 rfl qp_2_18 rfl rfl ?_
      refine ex_aload_n dX3_readNumber_48 rfl rfl ?_
      refine ex_getI (s := 2) (x := nI a) dX3_readNumber_49 rfl qp_2_34 rfl rfl (h2) ?_
      refine ex_iaload (k := a) (x := nI (t.2 a)) dX3_readNumber_52 rfl rfl (rfl) (by omega) (by decide) (ht.2 _ (by omega)) ?_
      refine ex_iadd (z := nI ((nv t p (a - p) * 10) + (t.2 a))) dX3_readNumber_53 rfl (nI_add (nv t p (a - p) * 10) (t.2 a)) ?_
      refine ex_bipush (x := 48) dX3_readNumber_54 rfl rfl ?_
      refine ex_isub (z := nI (nv t p (a - p) * 10 + t.2 a - 48)) dX3_readNumber_56 rfl (pk_sub (b := 48) (by omega)) ?_
      refine ex_put (σ' := qm_wI σ1 5 (nI (nv t p (a - p) * 10 + t.2 a - 48))) dX3_readNumber_57 rfl qp_2_81 rfl rfl (Or.inl rfl) rfl ?_
      refine ex_aload_n dX3_readNumber_60 rfl rfl ?_
      refine ex_dup dX3_readNumber_61 rfl rfl ?_
      refine ex_getI (s := 2) (x := nI a) dX3_readNumber_62 rfl qp_2_34 rfl rfl (h2) ?_
      refine ex_iconst (x := 1) dX3_readNumber_65 rfl rfl ?_
      refine ex_iadd (z := nI (a + 1)) dX3_readNumber_66 rfl (nI_add a 1) ?_
      refine ex_put (σ' := qm_wI (qm_wI σ1 5 (nI (nv t p (a - p) * 10 + t.2 a - 48))) 2 (nI (a + 1))) dX3_readNumber_67 rfl qp_2_34 rfl rfl (Or.inl rfl) rfl ?_
      refine ex_goto (q := 10) dX3_readNumber_70 rfl ?_
      exact hE
    · rw [show rn tIsD t.2 (k + 1) a = a by rw [rn, if_neg c]]
      by_cases c4 : a - p ≤ 4
      · refine ⟨σ1, ?_, ⟨h3, (by rw [if_pos c4]; exact h4), fun _ => ⟨h5, h6, h2⟩, fun z => absurd c4 z⟩, sm.rf _ _ _ _ _⟩
        refine ex_aload_n dX3_readNumber_10 rfl rfl ?_
        refine ex_getI (s := 2) (x := nI a) dX3_readNumber_11 rfl qp_2_34 rfl rfl (h2) ?_
        refine ex_aload_n dX3_readNumber_14 rfl rfl ?_
        refine ex_getI (s := 0) (x := nI t.1) dX3_readNumber_15 rfl qp_2_27 rfl rfl (ht.1) ?_
        refine ex_icmp_ge (q := 73) (q2 := 21) dX3_readNumber_18 rfl rfl (fun hh => absurd hh (nI_ge (a := a) (b := t.1) (by omega) (by omega))) (fun _ => ?_)
        refine ex_aload_n dX3_readNumber_21 rfl rfl ?_
        refine ex_getR (b := 3) dX3_readNumber_22 rfl qp_2_18 rfl rfl ?_
        refine ex_aload_n dX3_readNumber_25 rfl rfl ?_
        refine ex_getI (s := 2) (x := nI a) dX3_readNumber_26 rfl qp_2_34 rfl rfl (h2) ?_
        refine ex_iaload (k := a) (x := nI (t.2 a)) dX3_readNumber_29 rfl rfl (rfl) (by omega) (by decide) (ht.2 _ (by omega)) ?_
        refine ex_callS (rest := []) dX3_readNumber_30 rfl qp_2_90 rfl rfl rfl (Nat.le_of_ble_eq_true rfl) (c_isDigit (ext := ext) _ (hk.2 a (by omega))) (Nat.le_of_ble_eq_true rfl) ?_
        show Ex (qm_layT ++ ext) _ mX3_readNumber 33 [some (.ref 0)] [.int (b2i (tIsD (t.2 a)))] σ1 _ _
        refine ex_if_eq (q := 73) (q2 := 36) dX3_readNumber_33 rfl rfl (fun _ => ?_) (fun hh => absurd (b2i_0.mpr (by simpa using c)) hh)
        refine ex_aload_n dX3_readNumber_73 rfl rfl ?_
        refine ex_getI (s := 2) (x := nI a) dX3_readNumber_74 rfl qp_2_34 rfl rfl (h2) ?_
        refine ex_aload_n dX3_readNumber_77 rfl rfl ?_
        refine ex_getI (s := 3) (x := nI p) dX3_readNumber_78 rfl qp_2_56 rfl rfl (h3) ?_
        refine ex_isub (z := nI (a - p)) dX3_readNumber_81 rfl (pk_sub (by omega)) ?_
        refine ex_iconst (x := 4) dX3_readNumber_82 rfl rfl ?_
        refine ex_icmp_le (q := 90) (q2 := 86) dX3_readNumber_83 rfl rfl (fun _ => ?_) (fun hh => absurd (nI_le (a := (a - p)) (b := 4) (by omega) (by omega)) hh)
        exact ex_vret dX3_readNumber_90 rfl rfl rfl
      · refine ⟨_, ?_, ⟨?_, ?_, fun z => absurd z c4, fun _ => ?_⟩, ((sm.rf σ1 2 7 0 0).wI (s := 6) (nI p) (by omega)).wI (s := 4) 3 (by omega)⟩
        · refine ex_aload_n dX3_readNumber_10 rfl rfl ?_
          refine ex_getI (s := 2) (x := nI a) dX3_readNumber_11 rfl qp_2_34 rfl rfl (h2) ?_
          refine ex_aload_n dX3_readNumber_14 rfl rfl ?_
          refine ex_getI (s := 0) (x := nI t.1) dX3_readNumber_15 rfl qp_2_27 rfl rfl (ht.1) ?_
          refine ex_icmp_ge (q := 73) (q2 := 21) dX3_readNumber_18 rfl rfl (fun hh => absurd hh (nI_ge (a := a) (b := t.1) (by omega) (by omega))) (fun _ => ?_)
          refine ex_aload_n dX3_readNumber_21 rfl rfl ?_
          refine ex_getR (b := 3) dX3_readNumber_22 rfl qp_2_18 rfl rfl ?_
          refine ex_aload_n dX3_readNumber_25 rfl rfl ?_
          refine ex_getI (s := 2) (x := nI a) dX3_readNumber_26 rfl qp_2_34 rfl rfl (h2) ?_
          refine ex_iaload (k := a) (x := nI (t.2 a)) dX3_readNumber_29 rfl rfl (rfl) (by omega) (by decide) (ht.2 _ (by omega)) ?_
          refine ex_callS (rest := []) dX3_readNumber_30 rfl qp_2_90 rfl rfl rfl (Nat.le_of_ble_eq_true rfl) (c_isDigit (ext := ext) _ (hk.2 a (by omega))) (Nat.le_of_ble_eq_true rfl) ?_
          show Ex (qm_layT ++ ext) _ mX3_readNumber 33 [some (.ref 0)] [.int (b2i (tIsD (t.2 a)))] σ1 _ _
          refine ex_if_eq (q := 73) (q2 := 36) dX3_readNumber_33 rfl rfl (fun _ => ?_) (fun hh => absurd (b2i_0.mpr (by simpa using c)) hh)
          refine ex_aload_n dX3_readNumber_73 rfl rfl ?_
          refine ex_getI (s := 2) (x := nI a) dX3_readNumber_74 rfl qp_2_34 rfl rfl (h2) ?_
          refine ex_aload_n dX3_readNumber_77 rfl rfl ?_
          refine ex_getI (s := 3) (x := nI p) dX3_readNumber_78 rfl qp_2_56 rfl rfl (h3) ?_
          refine ex_isub (z := nI (a - p)) dX3_readNumber_81 rfl (pk_sub (by omega)) ?_
          refine ex_iconst (x := 4) dX3_readNumber_82 rfl rfl ?_
          refine ex_icmp_le (q := 90) (q2 := 86) dX3_readNumber_83 rfl rfl (fun hh => absurd hh (nI_ge (a := 4) (b := (a - p)) (by omega) (by omega))) (fun _ => ?_)
          refine ex_aload_n dX3_readNumber_86 rfl rfl ?_
          refine ex_callV (a := 0) (rest := []) dX3_readNumber_87 rfl qp_2_53 rfl rfl rfl rfl rfl (Nat.le_of_ble_eq_true rfl) (c_fail_n h3 h6) (Nat.le_of_ble_eq_true rfl) ?_
          show Ex (qm_layT ++ ext) _ mX3_readNumber 90 [some (.ref 0)] [] (qm_wI (qm_wI σ1 6 (nI p)) 4 3) _ _
          exact ex_vret dX3_readNumber_90 rfl rfl rfl
        · rw [rI_wI, if_neg (by decide), rI_wI, if_neg (by decide)]; exact h3
        · rw [rI_wI, if_pos rfl, if_neg c4]; rfl
        · rw [rI_wI, if_neg (by decide), rI_wI, if_pos rfl]

set_option maxRecDepth 8000 in
set_option maxHeartbeats 2000000 in
theorem c_readNumber {ext : List qm_LE} {t : gt_T} (hk : gt_ok t) {σ : qm_St} {p : Nat} (hp : p ≤ t.1) (ht : TPR σ t) (h2 : qm_rI σ 2 = nI p) (h3 : qm_rI σ 3 = nI p) (h6 : qm_rI σ 6 = -1) : ∃ σ', Ok (qm_layT ++ ext) 3 mX3_readNumber [.ref 0] σ none σ' ∧ LXP σ' (lxN t p) ∧ sm σ σ' 2 7 0 0 := by
  have hg : sm σ (qm_wI (qm_wI σ 4 1) 5 0) 2 7 0 0 := ((sm.rf σ 2 7 0 0).wI (s := 4) _ (by omega)).wI (s := 5) _ (by omega)
  obtain ⟨σ', hE, ⟨g1, g2, g3, g4⟩, hs⟩ := l_digits3 (ext := ext) hk (t.1 - p) p _ (by omega) (Nat.le_refl p) (ht.sm hg (by omega) (by omega)) (by rw [rI_wI, if_neg (by decide), rI_wI, if_neg (by decide)]; exact h2) (by rw [rI_wI, if_neg (by decide), rI_wI, if_neg (by decide)]; exact h3) (by rw [rI_wI, if_neg (by decide), rI_wI, if_pos rfl]) (by rw [rI_wI, if_pos rfl, Nat.sub_self]; rfl) (by rw [rI_wI, if_neg (by decide), rI_wI, if_neg (by decide)]; exact h6)
  have e0 : rn tIsD t.2 (t.1 - p) p = lxe t tIsD p := rfl
  rw [e0] at g2 g3 g4
  refine ⟨σ', ?_, ⟨g1, g2, fun z => ?_, fun z => ?_, fun z => ?_⟩, hg.tr hs⟩
  · refine Ok.of (ls := [some (.ref 0)]) (Nat.le_of_ble_eq_true rfl) rfl ?_
    refine ex_aload_n dX3_readNumber_0 rfl rfl ?_
    refine ex_iconst (x := 1) dX3_readNumber_1 rfl rfl ?_
    refine ex_put (σ' := qm_wI σ 4 1) dX3_readNumber_2 rfl qp_2_50 rfl rfl (Or.inl rfl) rfl ?_
    refine ex_aload_n dX3_readNumber_5 rfl rfl ?_
    refine ex_iconst (x := 0) dX3_readNumber_6 rfl rfl ?_
    refine ex_put (σ' := qm_wI (qm_wI σ 4 1) 5 0) dX3_readNumber_7 rfl qp_2_81 rfl rfl (Or.inl rfl) rfl ?_
    exact hE
  · refine (g3 ?_).1
    have z2 : (if lxe t tIsD p - p ≤ 4 then 1 else 3) = 1 ∨ (if lxe t tIsD p - p ≤ 4 then 1 else 3) = 2 := z
    split at z2
    · assumption
    · omega
  · refine g4 ?_
    have z2 : (if lxe t tIsD p - p ≤ 4 then 1 else 3) = 3 := z
    split at z2
    · omega
    · assumption
  · refine (g3 ?_).2
    have z2 : ¬ (if lxe t tIsD p - p ≤ 4 then 1 else 3) = 3 := z
    split at z2
    · assumption
    · exact absurd rfl z2

set_option maxRecDepth 8000 in
set_option maxHeartbeats 2000000 in
theorem l_next60 {ext : List qm_LE} {t : gt_T} (hk : gt_ok t) {σ : qm_St} {p : Nat} (hp : p ≤ t.1) (ht : TPR σ t) (h2 : qm_rI σ 2 = nI p) (h6 : qm_rI σ 6 = -1) : ∃ σ', Ex (qm_layT ++ ext) 4 mX3_next 60 [some (.ref 0)] [] σ none σ' ∧ LXP σ' (lx1 t p) ∧ sm σ σ' 2 7 0 0 := by
  have h160 := hk.1
  have hg : sm σ (qm_wI σ 3 (nI p)) 2 7 0 0 := (sm.rf σ 2 7 0 0).wI _ (by omega)
  have ht1 := ht.sm hg (by omega) (by omega)
  have h21 : qm_rI (qm_wI σ 3 (nI p)) 2 = nI p := by rw [rI_wI, if_neg (by decide)]; exact h2
  have h31 : qm_rI (qm_wI σ 3 (nI p)) 3 = nI p := by rw [rI_wI, if_pos rfl]
  have h61 : qm_rI (qm_wI σ 3 (nI p)) 6 = -1 := by rw [rI_wI, if_neg (by decide)]; exact h6
  unfold lx1
  by_cases c1 : t.1 ≤ p
  · rw [if_pos c1]
    refine ⟨_, ?_, ⟨?_, ?_, fun z => (by rcases z with z | z <;> cases z), fun z => (by cases z), fun _ => ⟨?_, ?_⟩⟩, hg.tr ((sm.rf _ 2 7 0 0).wI (s := 4) 0 (by omega))⟩
    · refine ex_aload_n dX3_next_60 rfl rfl ?_
      refine ex_aload_n dX3_next_61 rfl rfl ?_
      refine ex_getI (s := 2) (x := nI p) dX3_next_62 rfl qp_2_34 rfl rfl (h2) ?_
      refine ex_put (σ' := qm_wI σ 3 (nI p)) dX3_next_65 rfl qp_2_56 rfl rfl (Or.inl rfl) rfl ?_
      refine ex_aload_n dX3_next_68 rfl rfl ?_
      refine ex_getI (s := 2) (x := nI p) dX3_next_69 rfl qp_2_34 rfl rfl (h2) ?_
      refine ex_aload_n dX3_next_72 rfl rfl ?_
      refine ex_getI (s := 0) (x := nI t.1) dX3_next_73 rfl qp_2_27 rfl rfl (ht.1) ?_
      refine ex_icmp_lt (q := 87) (q2 := 79) dX3_next_76 rfl rfl (fun hh => absurd hh (nI_nlt (a := p) (b := t.1) (by omega) (by omega))) (fun _ => ?_)
      refine ex_aload_n dX3_next_79 rfl rfl ?_
      refine ex_iconst (x := 0) dX3_next_80 rfl rfl ?_
      refine ex_put (σ' := qm_wI (qm_wI σ 3 (nI p)) 4 0) dX3_next_81 rfl qp_2_50 rfl rfl (Or.inl rfl) rfl ?_
      refine ex_goto (q := 176) dX3_next_84 rfl ?_
      exact ex_vret dX3_next_176 rfl rfl rfl
    · rw [rI_wI, if_neg (by decide)]; exact h31
    · rw [rI_wI, if_pos rfl]; rfl
    · rw [rI_wI, if_neg (by decide)]; exact h61
    · rw [rI_wI, if_neg (by decide)]; exact h21
  · rw [if_neg c1]
    have hp1 : p < t.1 := by omega
    by_cases c2 : tIsL (t.2 p) = true
    · rw [if_pos c2]
      obtain ⟨σ', hO, hL, hs⟩ := c_readWord (ext := ext) hk hp ht1 h21 h31 h61
      refine ⟨σ', ?_, hL, hg.tr hs⟩
      refine ex_aload_n dX3_next_60 rfl rfl ?_
      refine ex_aload_n dX3_next_61 rfl rfl ?_
      refine ex_getI (s := 2) (x := nI p) dX3_next_62 rfl qp_2_34 rfl rfl (h2) ?_
      refine ex_put (σ' := qm_wI σ 3 (nI p)) dX3_next_65 rfl qp_2_56 rfl rfl (Or.inl rfl) rfl ?_
      refine ex_aload_n dX3_next_68 rfl rfl ?_
      refine ex_getI (s := 2) (x := nI p) dX3_next_69 rfl qp_2_34 rfl rfl (h2) ?_
      refine ex_aload_n dX3_next_72 rfl rfl ?_
      refine ex_getI (s := 0) (x := nI t.1) dX3_next_73 rfl qp_2_27 rfl rfl (ht.1) ?_
      refine ex_icmp_lt (q := 87) (q2 := 79) dX3_next_76 rfl rfl (fun _ => ?_) (fun hh => absurd (nI_lt (a := p) (b := t.1) (by omega) (by omega)) hh)
      refine ex_aload_n dX3_next_87 rfl rfl ?_
      refine ex_getR (b := 3) dX3_next_88 rfl qp_2_18 rfl rfl ?_
      refine ex_aload_n dX3_next_91 rfl rfl ?_
      refine ex_getI (s := 2) (x := nI p) dX3_next_92 rfl qp_2_34 rfl rfl (h2) ?_
      refine ex_iaload (k := p) (x := nI (t.2 p)) dX3_next_95 rfl rfl (rfl) (by omega) (by decide) (ht1.2 _ (by omega)) ?_
      refine ex_callS (rest := []) dX3_next_96 rfl qp_2_84 rfl rfl rfl (Nat.le_of_ble_eq_true rfl) (c_isLetter (ext := ext) _ (hk.2 p (by omega))) (Nat.le_of_ble_eq_true rfl) ?_
      show Ex (qm_layT ++ ext) _ mX3_next 99 [some (.ref 0)] [.int (b2i (tIsL (t.2 p)))] (qm_wI σ 3 (nI p)) _ _
      refine ex_if_eq (q := 109) (q2 := 102) dX3_next_99 rfl rfl (fun hh => absurd hh (b2i_n0.mpr (c2))) (fun _ => ?_)
      refine ex_aload_n dX3_next_102 rfl rfl ?_
      refine ex_callV (a := 0) (rest := []) dX3_next_103 rfl qp_2_87 rfl rfl rfl rfl rfl (Nat.le_of_ble_eq_true rfl) (hO) (Nat.le_of_ble_eq_true rfl) ?_
      show Ex (qm_layT ++ ext) _ mX3_next 106 [some (.ref 0)] [] σ' _ _
      refine ex_goto (q := 176) dX3_next_106 rfl ?_
      exact ex_vret dX3_next_176 rfl rfl rfl
    · rw [if_neg c2]
      by_cases c3 : tIsD (t.2 p) = true
      · rw [if_pos c3]
        obtain ⟨σ', hO, hL, hs⟩ := c_readNumber (ext := ext) hk hp ht1 h21 h31 h61
        refine ⟨σ', ?_, hL, hg.tr hs⟩
        refine ex_aload_n dX3_next_60 rfl rfl ?_
        refine ex_aload_n dX3_next_61 rfl rfl ?_
        refine ex_getI (s := 2) (x := nI p) dX3_next_62 rfl qp_2_34 rfl rfl (h2) ?_
        refine ex_put (σ' := qm_wI σ 3 (nI p)) dX3_next_65 rfl qp_2_56 rfl rfl (Or.inl rfl) rfl ?_
        refine ex_aload_n dX3_next_68 rfl rfl ?_
        refine ex_getI (s := 2) (x := nI p) dX3_next_69 rfl qp_2_34 rfl rfl (h2) ?_
        refine ex_aload_n dX3_next_72 rfl rfl ?_
        refine ex_getI (s := 0) (x := nI t.1) dX3_next_73 rfl qp_2_27 rfl rfl (ht.1) ?_
        refine ex_icmp_lt (q := 87) (q2 := 79) dX3_next_76 rfl rfl (fun _ => ?_) (fun hh => absurd (nI_lt (a := p) (b := t.1) (by omega) (by omega)) hh)
        refine ex_aload_n dX3_next_87 rfl rfl ?_
        refine ex_getR (b := 3) dX3_next_88 rfl qp_2_18 rfl rfl ?_
        refine ex_aload_n dX3_next_91 rfl rfl ?_
        refine ex_getI (s := 2) (x := nI p) dX3_next_92 rfl qp_2_34 rfl rfl (h2) ?_
        refine ex_iaload (k := p) (x := nI (t.2 p)) dX3_next_95 rfl rfl (rfl) (by omega) (by decide) (ht1.2 _ (by omega)) ?_
        refine ex_callS (rest := []) dX3_next_96 rfl qp_2_84 rfl rfl rfl (Nat.le_of_ble_eq_true rfl) (c_isLetter (ext := ext) _ (hk.2 p (by omega))) (Nat.le_of_ble_eq_true rfl) ?_
        show Ex (qm_layT ++ ext) _ mX3_next 99 [some (.ref 0)] [.int (b2i (tIsL (t.2 p)))] (qm_wI σ 3 (nI p)) _ _
        refine ex_if_eq (q := 109) (q2 := 102) dX3_next_99 rfl rfl (fun _ => ?_) (fun hh => absurd (b2i_0.mpr (by simpa using c2)) hh)
        refine ex_aload_n dX3_next_109 rfl rfl ?_
        refine ex_getR (b := 3) dX3_next_110 rfl qp_2_18 rfl rfl ?_
        refine ex_aload_n dX3_next_113 rfl rfl ?_
        refine ex_getI (s := 2) (x := nI p) dX3_next_114 rfl qp_2_34 rfl rfl (h2) ?_
        refine ex_iaload (k := p) (x := nI (t.2 p)) dX3_next_117 rfl rfl (rfl) (by omega) (by decide) (ht1.2 _ (by omega)) ?_
        refine ex_callS (rest := []) dX3_next_118 rfl qp_2_90 rfl rfl rfl (Nat.le_of_ble_eq_true rfl) (c_isDigit (ext := ext) _ (hk.2 p (by omega))) (Nat.le_of_ble_eq_true rfl) ?_
        show Ex (qm_layT ++ ext) _ mX3_next 121 [some (.ref 0)] [.int (b2i (tIsD (t.2 p)))] (qm_wI σ 3 (nI p)) _ _
        refine ex_if_eq (q := 131) (q2 := 124) dX3_next_121 rfl rfl (fun hh => absurd hh (b2i_n0.mpr (c3))) (fun _ => ?_)
        refine ex_aload_n dX3_next_124 rfl rfl ?_
        refine ex_callV (a := 0) (rest := []) dX3_next_125 rfl qp_2_93 rfl rfl rfl rfl rfl (Nat.le_of_ble_eq_true rfl) (hO) (Nat.le_of_ble_eq_true rfl) ?_
        show Ex (qm_layT ++ ext) _ mX3_next 128 [some (.ref 0)] [] σ' _ _
        refine ex_goto (q := 176) dX3_next_128 rfl ?_
        exact ex_vret dX3_next_176 rfl rfl rfl
      · rw [if_neg c3]
        by_cases c4 : tIsS (t.2 p) = true
        · rw [if_pos c4]
          have hne : ∀ d, d = 1 ∨ d = 2 ∨ d = 3 → t.2 p ≠ d := fun d hd e => by
            rw [e] at c4
            rcases hd with z | z | z <;> (subst z; cases c4)
          refine ⟨_, ?_, ⟨?_, ?_, fun z => (by rcases z with z | z; exact absurd z (hne 1 (by omega)); exact absurd z (hne 2 (by omega))), fun z => absurd z (hne 3 (by omega)), fun _ => ⟨?_, ?_⟩⟩, hg.tr (((sm.rf _ 2 7 0 0).wI (s := 4) (nI (t.2 p)) (by omega)).wI (s := 2) (nI (p + 1)) (by omega))⟩
          · refine ex_aload_n dX3_next_60 rfl rfl ?_
            refine ex_aload_n dX3_next_61 rfl rfl ?_
            refine ex_getI (s := 2) (x := nI p) dX3_next_62 rfl qp_2_34 rfl rfl (h2) ?_
            refine ex_put (σ' := qm_wI σ 3 (nI p)) dX3_next_65 rfl qp_2_56 rfl rfl (Or.inl rfl) rfl ?_
            refine ex_aload_n dX3_next_68 rfl rfl ?_
            refine ex_getI (s := 2) (x := nI p) dX3_next_69 rfl qp_2_34 rfl rfl (h2) ?_
            refine ex_aload_n dX3_next_72 rfl rfl ?_
            refine ex_getI (s := 0) (x := nI t.1) dX3_next_73 rfl qp_2_27 rfl rfl (ht.1) ?_
            refine ex_icmp_lt (q := 87) (q2 := 79) dX3_next_76 rfl rfl (fun _ => ?_) (fun hh => absurd (nI_lt (a := p) (b := t.1) (by omega) (by omega)) hh)
            refine ex_aload_n dX3_next_87 rfl rfl ?_
            refine ex_getR (b := 3) dX3_next_88 rfl qp_2_18 rfl rfl ?_
            refine ex_aload_n dX3_next_91 rfl rfl ?_
            refine ex_getI (s := 2) (x := nI p) dX3_next_92 rfl qp_2_34 rfl rfl (h2) ?_
            refine ex_iaload (k := p) (x := nI (t.2 p)) dX3_next_95 rfl rfl (rfl) (by omega) (by decide) (ht1.2 _ (by omega)) ?_
            refine ex_callS (rest := []) dX3_next_96 rfl qp_2_84 rfl rfl rfl (Nat.le_of_ble_eq_true rfl) (c_isLetter (ext := ext) _ (hk.2 p (by omega))) (Nat.le_of_ble_eq_true rfl) ?_
            show Ex (qm_layT ++ ext) _ mX3_next 99 [some (.ref 0)] [.int (b2i (tIsL (t.2 p)))] (qm_wI σ 3 (nI p)) _ _
            refine ex_if_eq (q := 109) (q2 := 102) dX3_next_99 rfl rfl (fun _ => ?_) (fun hh => absurd (b2i_0.mpr (by simpa using c2)) hh)
            refine ex_aload_n dX3_next_109 rfl rfl ?_
            refine ex_getR (b := 3) dX3_next_110 rfl qp_2_18 rfl rfl ?_
            refine ex_aload_n dX3_next_113 rfl rfl ?_
            refine ex_getI (s := 2) (x := nI p) dX3_next_114 rfl qp_2_34 rfl rfl (h2) ?_
            refine ex_iaload (k := p) (x := nI (t.2 p)) dX3_next_117 rfl rfl (rfl) (by omega) (by decide) (ht1.2 _ (by omega)) ?_
            refine ex_callS (rest := []) dX3_next_118 rfl qp_2_90 rfl rfl rfl (Nat.le_of_ble_eq_true rfl) (c_isDigit (ext := ext) _ (hk.2 p (by omega))) (Nat.le_of_ble_eq_true rfl) ?_
            show Ex (qm_layT ++ ext) _ mX3_next 121 [some (.ref 0)] [.int (b2i (tIsD (t.2 p)))] (qm_wI σ 3 (nI p)) _ _
            refine ex_if_eq (q := 131) (q2 := 124) dX3_next_121 rfl rfl (fun _ => ?_) (fun hh => absurd (b2i_0.mpr (by simpa using c3)) hh)
            refine ex_aload_n dX3_next_131 rfl rfl ?_
            refine ex_getR (b := 3) dX3_next_132 rfl qp_2_18 rfl rfl ?_
            refine ex_aload_n dX3_next_135 rfl rfl ?_
            refine ex_getI (s := 2) (x := nI p) dX3_next_136 rfl qp_2_34 rfl rfl (h2) ?_
            refine ex_iaload (k := p) (x := nI (t.2 p)) dX3_next_139 rfl rfl (rfl) (by omega) (by decide) (ht1.2 _ (by omega)) ?_
            refine ex_callS (rest := []) dX3_next_140 rfl qp_2_96 rfl rfl rfl (Nat.le_of_ble_eq_true rfl) (c_isSign (ext := ext) _ (hk.2 p (by omega))) (Nat.le_of_ble_eq_true rfl) ?_
            show Ex (qm_layT ++ ext) _ mX3_next 143 [some (.ref 0)] [.int (b2i (tIsS (t.2 p)))] (qm_wI σ 3 (nI p)) _ _
            refine ex_if_eq (q := 172) (q2 := 146) dX3_next_143 rfl rfl (fun hh => absurd hh (b2i_n0.mpr (c4))) (fun _ => ?_)
            refine ex_aload_n dX3_next_146 rfl rfl ?_
            refine ex_aload_n dX3_next_147 rfl rfl ?_
            refine ex_getR (b := 3) dX3_next_148 rfl qp_2_18 rfl rfl ?_
            refine ex_aload_n dX3_next_151 rfl rfl ?_
            refine ex_getI (s := 2) (x := nI p) dX3_next_152 rfl qp_2_34 rfl rfl (h2) ?_
            refine ex_iaload (k := p) (x := nI (t.2 p)) dX3_next_155 rfl rfl (rfl) (by omega) (by decide) (ht1.2 _ (by omega)) ?_
            refine ex_put (σ' := qm_wI (qm_wI σ 3 (nI p)) 4 (nI (t.2 p))) dX3_next_156 rfl qp_2_50 rfl rfl (Or.inl rfl) rfl ?_
            refine ex_aload_n dX3_next_159 rfl rfl ?_
            refine ex_dup dX3_next_160 rfl rfl ?_
            refine ex_getI (s := 2) (x := nI p) dX3_next_161 rfl qp_2_34 rfl rfl (h2) ?_
            refine ex_iconst (x := 1) dX3_next_164 rfl rfl ?_
            refine ex_iadd (z := nI (p + 1)) dX3_next_165 rfl (nI_add p 1) ?_
            refine ex_put (σ' := qm_wI (qm_wI (qm_wI σ 3 (nI p)) 4 (nI (t.2 p))) 2 (nI (p + 1))) dX3_next_166 rfl qp_2_34 rfl rfl (Or.inl rfl) rfl ?_
            refine ex_goto (q := 176) dX3_next_169 rfl ?_
            exact ex_vret dX3_next_176 rfl rfl rfl
          · rw [rI_wI, if_neg (by decide), rI_wI, if_neg (by decide)]; exact h31
          · rw [rI_wI, if_neg (by decide), rI_wI, if_pos rfl]
          · rw [rI_wI, if_neg (by decide), rI_wI, if_neg (by decide)]; exact h61
          · rw [rI_wI, if_pos rfl]
        · rw [if_neg c4]
          refine ⟨_, ?_, ⟨?_, ?_, fun z => (by rcases z with z | z <;> cases z), fun _ => ?_, fun z => absurd rfl z⟩, hg.tr (((sm.rf _ 2 7 0 0).wI (s := 6) (nI p) (by omega)).wI (s := 4) 3 (by omega))⟩
          · refine ex_aload_n dX3_next_60 rfl rfl ?_
            refine ex_aload_n dX3_next_61 rfl rfl ?_
            refine ex_getI (s := 2) (x := nI p) dX3_next_62 rfl qp_2_34 rfl rfl (h2) ?_
            refine ex_put (σ' := qm_wI σ 3 (nI p)) dX3_next_65 rfl qp_2_56 rfl rfl (Or.inl rfl) rfl ?_
            refine ex_aload_n dX3_next_68 rfl rfl ?_
            refine ex_getI (s := 2) (x := nI p) dX3_next_69 rfl qp_2_34 rfl rfl (h2) ?_
            refine ex_aload_n dX3_next_72 rfl rfl ?_
            refine ex_getI (s := 0) (x := nI t.1) dX3_next_73 rfl qp_2_27 rfl rfl (ht.1) ?_
            refine ex_icmp_lt (q := 87) (q2 := 79) dX3_next_76 rfl rfl (fun _ => ?_) (fun hh => absurd (nI_lt (a := p) (b := t.1) (by omega) (by omega)) hh)
            refine ex_aload_n dX3_next_87 rfl rfl ?_
            refine ex_getR (b := 3) dX3_next_88 rfl qp_2_18 rfl rfl ?_
            refine ex_aload_n dX3_next_91 rfl rfl ?_
            refine ex_getI (s := 2) (x := nI p) dX3_next_92 rfl qp_2_34 rfl rfl (h2) ?_
            refine ex_iaload (k := p) (x := nI (t.2 p)) dX3_next_95 rfl rfl (rfl) (by omega) (by decide) (ht1.2 _ (by omega)) ?_
            refine ex_callS (rest := []) dX3_next_96 rfl qp_2_84 rfl rfl rfl (Nat.le_of_ble_eq_true rfl) (c_isLetter (ext := ext) _ (hk.2 p (by omega))) (Nat.le_of_ble_eq_true rfl) ?_
            show Ex (qm_layT ++ ext) _ mX3_next 99 [some (.ref 0)] [.int (b2i (tIsL (t.2 p)))] (qm_wI σ 3 (nI p)) _ _
            refine ex_if_eq (q := 109) (q2 := 102) dX3_next_99 rfl rfl (fun _ => ?_) (fun hh => absurd (b2i_0.mpr (by simpa using c2)) hh)
            refine ex_aload_n dX3_next_109 rfl rfl ?_
            refine ex_getR (b := 3) dX3_next_110 rfl qp_2_18 rfl rfl ?_
            refine ex_aload_n dX3_next_113 rfl rfl ?_
            refine ex_getI (s := 2) (x := nI p) dX3_next_114 rfl qp_2_34 rfl rfl (h2) ?_
            refine ex_iaload (k := p) (x := nI (t.2 p)) dX3_next_117 rfl rfl (rfl) (by omega) (by decide) (ht1.2 _ (by omega)) ?_
            refine ex_callS (rest := []) dX3_next_118 rfl qp_2_90 rfl rfl rfl (Nat.le_of_ble_eq_true rfl) (c_isDigit (ext := ext) _ (hk.2 p (by omega))) (Nat.le_of_ble_eq_true rfl) ?_
            show Ex (qm_layT ++ ext) _ mX3_next 121 [some (.ref 0)] [.int (b2i (tIsD (t.2 p)))] (qm_wI σ 3 (nI p)) _ _
            refine ex_if_eq (q := 131) (q2 := 124) dX3_next_121 rfl rfl (fun _ => ?_) (fun hh => absurd (b2i_0.mpr (by simpa using c3)) hh)
            refine ex_aload_n dX3_next_131 rfl rfl ?_
            refine ex_getR (b := 3) dX3_next_132 rfl qp_2_18 rfl rfl ?_
            refine ex_aload_n dX3_next_135 rfl rfl ?_
            refine ex_getI (s := 2) (x := nI p) dX3_next_136 rfl qp_2_34 rfl rfl (h2) ?_
            refine ex_iaload (k := p) (x := nI (t.2 p)) dX3_next_139 rfl rfl (rfl) (by omega) (by decide) (ht1.2 _ (by omega)) ?_
            refine ex_callS (rest := []) dX3_next_140 rfl qp_2_96 rfl rfl rfl (Nat.le_of_ble_eq_true rfl) (c_isSign (ext := ext) _ (hk.2 p (by omega))) (Nat.le_of_ble_eq_true rfl) ?_
            show Ex (qm_layT ++ ext) _ mX3_next 143 [some (.ref 0)] [.int (b2i (tIsS (t.2 p)))] (qm_wI σ 3 (nI p)) _ _
            refine ex_if_eq (q := 172) (q2 := 146) dX3_next_143 rfl rfl (fun _ => ?_) (fun hh => absurd (b2i_0.mpr (by simpa using c4)) hh)
            refine ex_aload_n dX3_next_172 rfl rfl ?_
            refine ex_callV (a := 0) (rest := []) dX3_next_173 rfl qp_2_53 rfl rfl rfl rfl rfl (Nat.le_of_ble_eq_true rfl) (c_fail_n h31 h61) (Nat.le_of_ble_eq_true rfl) ?_
            show Ex (qm_layT ++ ext) _ mX3_next 176 [some (.ref 0)] [] (qm_wI (qm_wI (qm_wI σ 3 (nI p)) 6 (nI p)) 4 3) _ _
            exact ex_vret dX3_next_176 rfl rfl rfl
          · rw [rI_wI, if_neg (by decide), rI_wI, if_neg (by decide)]; exact h31
          · rw [rI_wI, if_pos rfl]; rfl
          · rw [rI_wI, if_neg (by decide), rI_wI, if_pos rfl]

set_option maxRecDepth 8000 in
set_option maxHeartbeats 2000000 in
theorem l_blanks {ext : List qm_LE} {t : gt_T} (hk : gt_ok t) : ∀ (k a : Nat) (σ1 : qm_St), a + k = t.1 → TPR σ1 t → qm_rI σ1 2 = nI a → qm_rI σ1 6 = -1 → ∃ σ', Ex (qm_layT ++ ext) 4 mX3_next 8 [some (.ref 0)] [] σ1 none σ' ∧ LXP σ' (lx1 t (rn tIsB t.2 k a)) ∧ sm σ1 σ' 2 7 0 0 := by
  have h160 := hk.1
  intro k
  induction k with
  | zero =>
    intro a σ1 ha ht h2 h6
    obtain ⟨σ', hE, hL, hs⟩ := l_next60 (ext := ext) hk (show a ≤ t.1 by omega) ht h2 h6
    refine ⟨σ', ?_, hL, hs⟩
    refine ex_aload_n dX3_next_8 rfl rfl ?_
    refine ex_getI (s := 2) (x := nI a) dX3_next_9 rfl qp_2_34 rfl rfl (h2) ?_
    refine ex_aload_n dX3_next_12 rfl rfl ?_
    refine ex_getI (s := 0) (x := nI t.1) dX3_next_13 rfl qp_2_27 rfl rfl (ht.1) ?_
    refine ex_icmp_ge (q := 60) (q2 := 19) dX3_next_16 rfl rfl (fun _ => ?_) (fun hh => absurd (nI_le (a := t.1) (b := a) (by omega) (by omega)) hh)
    exact hE
  | succ k ih =>
    intro a σ1 ha ht h2 h6
    have hb := hk.2 a (by omega)
    by_cases c : tIsB (t.2 a) = true
    · have hg : sm σ1 (qm_wI σ1 2 (nI (a + 1))) 2 7 0 0 := (sm.rf σ1 2 7 0 0).wI _ (by omega)
      obtain ⟨σ', hE, hL, hs⟩ := ih (a + 1) (qm_wI σ1 2 (nI (a + 1))) (by omega) (ht.sm hg (by omega) (by omega)) (by rw [rI_wI, if_pos rfl]) (by rw [rI_wI, if_neg (by decide)]; exact h6)
      rw [show rn tIsB t.2 (k + 1) a = rn tIsB t.2 k (a + 1) by rw [rn, if_pos c]]
      refine ⟨σ', ?_, hL, hg.tr hs⟩
      have c2 : t.2 a = 32 ∨ t.2 a = 10 := by
        unfold tIsB at c
        rw [Bool.or_eq_true] at c
        exact c.imp of_decide_eq_true of_decide_eq_true
      rcases c2 with c2 | c2
      · refine ex_aload_n dX3_next_8 rfl rfl ?_
        refine ex_getI (s := 2) (x := nI a) dX3_next_9 rfl qp_2_34 rfl rfl (h2) ?_
        refine ex_aload_n dX3_next_12 rfl rfl ?_
        refine ex_getI (s := 0) (x := nI t.1) dX3_next_13 rfl qp_2_27 rfl rfl (ht.1) ?_
        refine ex_icmp_ge (q := 60) (q2 := 19) dX3_next_16 rfl rfl (fun hh => absurd hh (nI_ge (a := a) (b := t.1) (by omega) (by omega))) (fun _ => ?_)
        refine ex_aload_n dX3_next_19 rfl rfl ?_
        refine ex_getR (b := 3) dX3_next_20 rfl qp_2_18 rfl rfl ?_
        refine ex_aload_n dX3_next_23 rfl rfl ?_
        refine ex_getI (s := 2) (x := nI a) dX3_next_24 rfl qp_2_34 rfl rfl (h2) ?_
        refine ex_iaload (k := a) (x := nI (t.2 a)) dX3_next_27 rfl rfl (rfl) (by omega) (by decide) (ht.2 _ (by omega)) ?_
        refine ex_bipush (x := 32) dX3_next_28 rfl rfl ?_
        refine ex_icmp_eq (q := 47) (q2 := 33) dX3_next_30 rfl rfl (fun _ => ?_) (fun hh => absurd (congrArg nI (show (t.2 a) = 32 by omega)) hh)
        refine ex_aload_n dX3_next_47 rfl rfl ?_
        refine ex_dup dX3_next_48 rfl rfl ?_
        refine ex_getI (s := 2) (x := nI a) dX3_next_49 rfl qp_2_34 rfl rfl (h2) ?_
        refine ex_iconst (x := 1) dX3_next_52 rfl rfl ?_
        refine ex_iadd (z := nI (a + 1)) dX3_next_53 rfl (nI_add a 1) ?_
        refine ex_put (σ' := qm_wI σ1 2 (nI (a + 1))) dX3_next_54 rfl qp_2_34 rfl rfl (Or.inl rfl) rfl ?_
        refine ex_goto (q := 8) dX3_next_57 rfl ?_
        exact hE
      · refine ex_aload_n dX3_next_8 rfl rfl ?_
        refine ex_getI (s := 2) (x := nI a) dX3_next_9 rfl qp_2_34 rfl rfl (h2) ?_
        refine ex_aload_n dX3_next_12 rfl rfl ?_
        refine ex_getI (s := 0) (x := nI t.1) dX3_next_13 rfl qp_2_27 rfl rfl (ht.1) ?_
        refine ex_icmp_ge (q := 60) (q2 := 19) dX3_next_16 rfl rfl (fun hh => absurd hh (nI_ge (a := a) (b := t.1) (by omega) (by omega))) (fun _ => ?_)
        refine ex_aload_n dX3_next_19 rfl rfl ?_
        refine ex_getR (b := 3) dX3_next_20 rfl qp_2_18 rfl rfl ?_
        refine ex_aload_n dX3_next_23 rfl rfl ?_
        refine ex_getI (s := 2) (x := nI a) dX3_next_24 rfl qp_2_34 rfl rfl (h2) ?_
        refine ex_iaload (k := a) (x := nI (t.2 a)) dX3_next_27 rfl rfl (rfl) (by omega) (by decide) (ht.2 _ (by omega)) ?_
        refine ex_bipush (x := 32) dX3_next_28 rfl rfl ?_
        refine ex_icmp_eq (q := 47) (q2 := 33) dX3_next_30 rfl rfl (fun hh => absurd hh (fun zz => absurd ((nI_eq (a := (t.2 a)) (b := 32) (by omega) (by omega)).mp zz) (by omega))) (fun _ => ?_)
        refine ex_aload_n dX3_next_33 rfl rfl ?_
        refine ex_getR (b := 3) dX3_next_34 rfl qp_2_18 rfl rfl ?_
        refine ex_aload_n dX3_next_37 rfl rfl ?_
        refine ex_getI (s := 2) (x := nI a) dX3_next_38 rfl qp_2_34 rfl rfl (h2) ?_
        refine ex_iaload (k := a) (x := nI (t.2 a)) dX3_next_41 rfl rfl (rfl) (by omega) (by decide) (ht.2 _ (by omega)) ?_
        refine ex_bipush (x := 10) dX3_next_42 rfl rfl ?_
        refine ex_icmp_ne (q := 60) (q2 := 47) dX3_next_44 rfl rfl (fun hh => absurd hh (fun zz => zz (congrArg nI (show (t.2 a) = 10 by omega)))) (fun _ => ?_)
        refine ex_aload_n dX3_next_47 rfl rfl ?_
        refine ex_dup dX3_next_48 rfl rfl ?_
        refine ex_getI (s := 2) (x := nI a) dX3_next_49 rfl qp_2_34 rfl rfl (h2) ?_
        refine ex_iconst (x := 1) dX3_next_52 rfl rfl ?_
        refine ex_iadd (z := nI (a + 1)) dX3_next_53 rfl (nI_add a 1) ?_
        refine ex_put (σ' := qm_wI σ1 2 (nI (a + 1))) dX3_next_54 rfl qp_2_34 rfl rfl (Or.inl rfl) rfl ?_
        refine ex_goto (q := 8) dX3_next_57 rfl ?_
        exact hE
    · obtain ⟨σ', hE, hL, hs⟩ := l_next60 (ext := ext) hk (show a ≤ t.1 by omega) ht h2 h6
      rw [show rn tIsB t.2 (k + 1) a = a by rw [rn, if_neg c]]
      refine ⟨σ', ?_, hL, hs⟩
      have c2 : ¬ t.2 a = 32 ∧ ¬ t.2 a = 10 := ⟨fun z => c (by unfold tIsB; rw [z]; rfl), fun z => c (by unfold tIsB; rw [z]; rfl)⟩
      refine ex_aload_n dX3_next_8 rfl rfl ?_
      refine ex_getI (s := 2) (x := nI a) dX3_next_9 rfl qp_2_34 rfl rfl (h2) ?_
      refine ex_aload_n dX3_next_12 rfl rfl ?_
      refine ex_getI (s := 0) (x := nI t.1) dX3_next_13 rfl qp_2_27 rfl rfl (ht.1) ?_
      refine ex_icmp_ge (q := 60) (q2 := 19) dX3_next_16 rfl rfl (fun hh => absurd hh (nI_ge (a := a) (b := t.1) (by omega) (by omega))) (fun _ => ?_)
      refine ex_aload_n dX3_next_19 rfl rfl ?_
      refine ex_getR (b := 3) dX3_next_20 rfl qp_2_18 rfl rfl ?_
      refine ex_aload_n dX3_next_23 rfl rfl ?_
      refine ex_getI (s := 2) (x := nI a) dX3_next_24 rfl qp_2_34 rfl rfl (h2) ?_
      refine ex_iaload (k := a) (x := nI (t.2 a)) dX3_next_27 rfl rfl (rfl) (by omega) (by decide) (ht.2 _ (by omega)) ?_
      refine ex_bipush (x := 32) dX3_next_28 rfl rfl ?_
      refine ex_icmp_eq (q := 47) (q2 := 33) dX3_next_30 rfl rfl (fun hh => absurd hh (fun zz => c2.1 ((nI_eq (by omega) (by decide)).mp zz))) (fun _ => ?_)
      refine ex_aload_n dX3_next_33 rfl rfl ?_
      refine ex_getR (b := 3) dX3_next_34 rfl qp_2_18 rfl rfl ?_
      refine ex_aload_n dX3_next_37 rfl rfl ?_
      refine ex_getI (s := 2) (x := nI a) dX3_next_38 rfl qp_2_34 rfl rfl (h2) ?_
      refine ex_iaload (k := a) (x := nI (t.2 a)) dX3_next_41 rfl rfl (rfl) (by omega) (by decide) (ht.2 _ (by omega)) ?_
      refine ex_bipush (x := 10) dX3_next_42 rfl rfl ?_
      refine ex_icmp_ne (q := 60) (q2 := 47) dX3_next_44 rfl rfl (fun _ => ?_) (fun hh => absurd (fun zz => c2.2 ((nI_eq (by omega) (by decide)).mp zz)) hh)
      exact hE

set_option maxRecDepth 8000 in
set_option maxHeartbeats 2000000 in
theorem c_next {ext : List qm_LE} {t : gt_T} (hk : gt_ok t) {σ : qm_St} {a : Nat} (ha : a ≤ t.1) (ht : TPR σ t) (h2 : qm_rI σ 2 = nI a) (h6 : qm_rI σ 6 = -1) : ∃ σ', Ok (qm_layT ++ ext) 4 mX3_next [.ref 0] σ none σ' ∧ LXP σ' (lx t a) ∧ sm σ σ' 2 7 0 0 := by
  obtain ⟨σ', hE, hL, hs⟩ := l_blanks (ext := ext) hk (t.1 - a) a σ (by omega) ht h2 h6
  refine ⟨σ', ?_, hL, hs⟩
  refine Ok.of (ls := [some (.ref 0)]) (Nat.le_of_ble_eq_true rfl) rfl ?_
  refine ex_aload_n dX3_next_0 rfl rfl ?_
  refine ex_getI (s := 6) (x := (-1)) dX3_next_1 rfl qp_2_37 rfl rfl (h6) ?_
  refine ex_if_lt (q := 8) (q2 := 7) dX3_next_4 rfl rfl (fun _ => ?_) (fun hh => absurd (by decide) hh)
  exact hE

theorem c_next_f {ext : List qm_LE} {σ : qm_St} {e : Nat} (he : e < 2 ^ 31) (h6 : qm_rI σ 6 = nI e) : Ok (qm_layT ++ ext) 4 mX3_next [.ref 0] σ none σ := by
  refine Ok.of (ls := [some (.ref 0)]) (Nat.le_of_ble_eq_true rfl) rfl ?_
  refine ex_aload_n dX3_next_0 rfl rfl ?_
  refine ex_getI (s := 6) (x := nI e) dX3_next_1 rfl qp_2_37 rfl rfl (h6) ?_
  refine ex_if_lt (q := 8) (q2 := 7) dX3_next_4 rfl rfl (fun hh => absurd hh (nI_pos (by omega))) (fun _ => ?_)
  exact ex_vret dX3_next_7 rfl rfl rfl

