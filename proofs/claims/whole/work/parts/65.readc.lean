/-! ===== the class reads a text ===== -/
theorem tk_lt {t : gt_T} (hk : gt_ok t) (i : Nat) : tk t i < 256 := by
  unfold tk
  rw [tks_lx]
  unfold lx lx1
  split
  · exact Nat.lt_of_lt_of_le (show 0 < 1 by decide) (by decide)
  · rename_i c1
    split
    · unfold lxW
      show (if wx t (lxp t (tpo t i)) (lxe t tIsL (lxp t (tpo t i))) < 6 then 2 else if wx t (lxp t (tpo t i)) (lxe t tIsL (lxp t (tpo t i))) < 12 then wx t (lxp t (tpo t i)) (lxe t tIsL (lxp t (tpo t i))) - 2 else 3) < 256
      split
      · decide
      · split <;> omega
    · split
      · unfold lxN
        show (if lxe t tIsD (lxp t (tpo t i)) - lxp t (tpo t i) ≤ 4 then 1 else 3) < 256
        split <;> decide
      · show (if tIsS (t.2 (lxp t (tpo t i))) = true then t.2 (lxp t (tpo t i)) else 3) < 256
        split
        · exact hk.2 _ (by omega)
        · decide
section RCS
variable (t : gt_T)
/-- the reader at a token, steps being read; and behind a fault -/
def RC (σ : qm_St) (i : Nat) (cs : List Nat) : Prop := TPR σ t ∧ LXP σ (tks t i) ∧ qm_rI σ 1 = nI cs.length ∧ ∀ k, k < cs.length → qm_rF σ 0 k = nI (cs.getD k 0)
def FC (σ : qm_St) (e : Nat) : Prop := qm_rI σ 4 = 3 ∧ qm_rI σ 6 = nI (tpl t e) ∧ ∃ n, n ≤ 160 ∧ qm_rI σ 1 = nI n
def PPc_ (σ : qm_St) (r : tR) : Prop := match r with
  | .inl e => FC t σ e
  | .inr q => RC t σ q.1 q.2
/-- a reading method of the class -/
def OwC (ext : List qm_LE) (D : Nat) (mi : qm_MI) (o : Nat) (p : tF) : Prop :=
  (∀ (i : Nat) (cs : List Nat) (σ : qm_St), RC t σ i cs → cs.length ≤ i → i ≤ 160 → ∃ σ', Ok (qm_layT ++ ext) D mi [.ref 0, .int (nI o)] σ none σ' ∧ PPc_ t σ' (p i cs) ∧ sm σ σ' 1 7 0 1) ∧
  (∀ (e : Nat) (σ : qm_St), FC t σ e → ∃ σ', Ok (qm_layT ++ ext) D mi [.ref 0, .int (nI o)] σ none σ' ∧ FC t σ' e ∧ sm σ σ' 1 7 0 1)
end RCS
section RCS2
variable {t : gt_T} (hk : gt_ok t) {ext : List qm_LE}
theorem tpl_160 (hk : gt_ok t) (i : Nat) : tpl t i ≤ 160 := Nat.le_trans (tpl_le t i) hk.1
theorem nextR (hk : gt_ok t) {σ : qm_St} {i : Nat} {cs : List Nat} (h : RC t σ i cs) (h3 : tk t i ≠ 3) : ∃ σ', Ok (qm_layT ++ ext) 4 mX3_next [.ref 0] σ none σ' ∧ RC t σ' (i + 1) cs ∧ sm σ σ' 2 7 0 0 := by
  obtain ⟨g1, g2⟩ := h.2.1.2.2.2.2 h3
  obtain ⟨σ', hO, hL, hs⟩ := c_next (ext := ext) hk (a := tpo t (i + 1)) (tpo_le t (i + 1)) h.1 g2 g1
  refine ⟨σ', hO, ⟨h.1.sm hs (by omega) (by omega), ?_, by rw [hs.1 _ (by omega)]; exact h.2.2.1, fun k hk2 => by rw [hs.2 _ (by omega)]; exact h.2.2.2 k hk2⟩, hs⟩
  rw [tks_lx]
  exact hL
theorem nextF (hk : gt_ok t) {σ : qm_St} {e : Nat} (h : FC t σ e) : Ok (qm_layT ++ ext) 4 mX3_next [.ref 0] σ none σ := c_next_f (ext := ext) (e := tpl t e) (by have := tpl_160 hk e; omega) h.2.1
theorem failR (hk : gt_ok t) {σ : qm_St} {i : Nat} {cs : List Nat} (h : RC t σ i cs) (hc : cs.length ≤ 160) : ∃ σ', Ok (qm_layT ++ ext) 0 mX3_fail [.ref 0] σ none σ' ∧ FC t σ' i ∧ sm σ σ' 1 7 0 1 := by
  by_cases c3 : tk t i = 3
  · have g := h.2.1.2.2.2.1 c3
    refine ⟨_, c_fail_o (ext := ext) (e := tpl t i) (by have := tpl_160 hk i; omega) g, ⟨by rw [rI_wI, if_pos rfl], by rw [rI_wI, if_neg (by decide)]; exact g, cs.length, hc, by rw [rI_wI, if_neg (by decide)]; exact h.2.2.1⟩, (sm.rf σ 1 7 0 1).wI _ (by omega)⟩
  · have g := h.2.1.2.2.2.2 c3
    refine ⟨_, c_fail_n (ext := ext) (p := tpl t i) h.2.1.1 g.1, ⟨by rw [rI_wI, if_pos rfl], by rw [rI_wI, if_neg (by decide), rI_wI, if_pos rfl], cs.length, hc, by rw [rI_wI, if_neg (by decide), rI_wI, if_neg (by decide)]; exact h.2.2.1⟩, ((sm.rf σ 1 7 0 1).wI _ (by omega)).wI _ (by omega)⟩
theorem failF (hk : gt_ok t) {σ : qm_St} {e : Nat} (h : FC t σ e) : ∃ σ', Ok (qm_layT ++ ext) 0 mX3_fail [.ref 0] σ none σ' ∧ FC t σ' e ∧ sm σ σ' 1 7 0 1 := by
  obtain ⟨h1, h2, n, h3, h4⟩ := h
  exact ⟨_, c_fail_o (ext := ext) (e := tpl t e) (by have := tpl_160 hk e; omega) h2, ⟨by rw [rI_wI, if_pos rfl], by rw [rI_wI, if_neg (by decide)]; exact h2, n, h3, by rw [rI_wI, if_neg (by decide)]; exact h4⟩, (sm.rf σ 1 7 0 1).wI _ (by omega)⟩
theorem addR {σ : qm_St} {i : Nat} {cs : List Nat} (h : RC t σ i cs) (hc : cs.length < 160) (c : Nat) : ∃ σ', Ok (qm_layT ++ ext) 0 mX3_addStep [.ref 0, .int (nI c)] σ none σ' ∧ RC t σ' i (cs ++ [c]) ∧ sm σ σ' 1 7 0 1 := by
  have hs : sm σ (qm_wI (qm_wF σ 0 cs.length (nI c)) 1 (nI (cs.length + 1))) 1 2 0 1 := ((sm.rf σ 1 2 0 1).wF _ (by omega)).wI _ (by omega)
  refine ⟨_, c_addStep_t (ext := ext) h.2.2.1 hc c, ⟨h.1.sm hs (by omega) (by omega), ?_, by rw [rI_wI, if_pos rfl, List.length_append]; rfl, fun k hk2 => ?_⟩, hs.wid (by omega) (by omega)⟩
  · obtain ⟨g1, g2, g3, g4, g5⟩ := h.2.1
    exact ⟨by rw [hs.1 _ (by omega)]; exact g1, by rw [hs.1 _ (by omega)]; exact g2, fun z => by rw [hs.1 _ (by omega)]; exact g3 z, fun z => by rw [hs.1 _ (by omega)]; exact g4 z, fun z => by rw [hs.1 _ (by omega), hs.1 _ (by omega)]; exact g5 z⟩
  · rw [List.length_append] at hk2
    have hk3 : k < cs.length + 1 := hk2
    rw [rF_wI]
    by_cases e : k = cs.length
    · rw [e, rF_eq, List.getD_eq_getElem?_getD, List.getElem?_append_right (Nat.le_refl _), Nat.sub_self]; rfl
    · rw [rF_ne (Or.inr e), List.getD_eq_getElem?_getD, List.getElem?_append_left (by omega), ← List.getD_eq_getElem?_getD]
      exact h.2.2.2 k (by omega)
theorem addF {σ : qm_St} {e : Nat} (h : FC t σ e) (c : Nat) : ∃ σ', Ok (qm_layT ++ ext) 0 mX3_addStep [.ref 0, .int (nI c)] σ none σ' ∧ FC t σ' e ∧ sm σ σ' 1 7 0 1 := by
  obtain ⟨h1, h2, n, h3, h4⟩ := h
  by_cases hn : n < 160
  · exact ⟨_, c_addStep_t (ext := ext) h4 hn c, ⟨by rw [rI_wI, if_neg (by decide), rI_wF]; exact h1, by rw [rI_wI, if_neg (by decide), rI_wF]; exact h2, n + 1, hn, by rw [rI_wI, if_pos rfl]⟩, ((sm.rf σ 1 7 0 1).wF _ (by omega)).wI _ (by omega)⟩
  · exact ⟨σ, c_addStep_f (ext := ext) h4 (by omega) h3 c, ⟨h1, h2, n, h3, h4⟩, sm.rf _ _ _ _ _⟩
theorem GP_le {b : Nat} {p : tF} (ht : t.1 ≤ 160) (hg : GP t b p) {i : Nat} {cs : List Nat} {j : Nat} {c : List Nat} (h : p i cs = .inr (j, c)) {n : Nat} (hc : cs.length + n ≤ i) : i < j ∧ j ≤ 160 ∧ c.length + n ≤ j := by
  obtain ⟨g1, g2, w, g3, g4, _⟩ := hg _ _ _ _ h
  have h1 := (tk_n0 g2).2
  refine ⟨g1, by omega, ?_⟩
  rw [g3, List.length_append]
  omega
end RCS2

set_option maxRecDepth 8000 in
set_option maxHeartbeats 2000000 in
theorem expect_41R {t : gt_T} (hk : gt_ok t) {ext : List qm_LE} {σ : qm_St} {i : Nat} {cs : List Nat} (h : RC t σ i cs) (hc : cs.length ≤ 160) : ∃ σ', Ok (qm_layT ++ ext) 5 mX3_expect [.ref 0, .int 41] σ none σ' ∧ PPc_ t σ' (if tk t i = 41 then .inr (i + 1, cs) else .inl i) ∧ sm σ σ' 1 7 0 1 := by
  have htk := tk_lt hk i
  by_cases c : tk t i = 41
  · rw [if_pos c]
    obtain ⟨σ', hO, hR, hs⟩ := nextR (ext := ext) hk h (by omega)
    refine ⟨σ', ?_, hR, hs.wid (by omega) (by omega)⟩
    refine Ok.of (ls := [some (.ref 0), some (.int 41)]) (Nat.le_of_ble_eq_true rfl) rfl ?_
    refine ex_aload_n dX3_expect_0 rfl rfl ?_
    refine ex_getI (s := 4) (x := nI (tk t i)) dX3_expect_1 rfl qp_2_50 rfl rfl (h.2.1.2.1) ?_
    refine ex_iload_n dX3_expect_4 rfl rfl ?_
    refine ex_icmp_ne (q := 15) (q2 := 8) dX3_expect_5 rfl rfl (fun hh => absurd hh (fun zz => zz (congrArg nI c))) (fun _ => ?_)
    refine ex_aload_n dX3_expect_8 rfl rfl ?_
    refine ex_callV (a := 0) (rest := []) dX3_expect_9 rfl qp_2_40 rfl rfl rfl rfl rfl (Nat.le_of_ble_eq_true rfl) (hO) (Nat.le_of_ble_eq_true rfl) ?_
    show Ex (qm_layT ++ ext) _ mX3_expect 12 [some (.ref 0), some (.int 41)] [] σ' _ _
    refine ex_goto (q := 19) dX3_expect_12 rfl ?_
    exact ex_vret dX3_expect_19 rfl rfl rfl
  · rw [if_neg c]
    obtain ⟨σ', hO, hF, hs⟩ := failR (ext := ext) hk h hc
    refine ⟨σ', ?_, hF, hs⟩
    refine Ok.of (ls := [some (.ref 0), some (.int 41)]) (Nat.le_of_ble_eq_true rfl) rfl ?_
    refine ex_aload_n dX3_expect_0 rfl rfl ?_
    refine ex_getI (s := 4) (x := nI (tk t i)) dX3_expect_1 rfl qp_2_50 rfl rfl (h.2.1.2.1) ?_
    refine ex_iload_n dX3_expect_4 rfl rfl ?_
    refine ex_icmp_ne (q := 15) (q2 := 8) dX3_expect_5 rfl rfl (fun _ => ?_) (fun hh => absurd (fun zz => c ((nI_eq (b := 41) (by omega) (by omega)).mp zz)) hh)
    refine ex_aload_n dX3_expect_15 rfl rfl ?_
    refine ex_callV (a := 0) (rest := []) dX3_expect_16 rfl qp_2_53 rfl rfl rfl rfl rfl (Nat.le_of_ble_eq_true rfl) (hO) (Nat.le_of_ble_eq_true rfl) ?_
    show Ex (qm_layT ++ ext) _ mX3_expect 19 [some (.ref 0), some (.int 41)] [] σ' _ _
    exact ex_vret dX3_expect_19 rfl rfl rfl

set_option maxRecDepth 8000 in
set_option maxHeartbeats 2000000 in
theorem expect_41F {t : gt_T} (hk : gt_ok t) {ext : List qm_LE} {σ : qm_St} {e : Nat} (h : FC t σ e) : ∃ σ', Ok (qm_layT ++ ext) 5 mX3_expect [.ref 0, .int 41] σ none σ' ∧ FC t σ' e ∧ sm σ σ' 1 7 0 1 := by
  obtain ⟨σ', hO, hF, hs⟩ := failF (ext := ext) hk h
  refine ⟨σ', ?_, hF, hs⟩
  refine Ok.of (ls := [some (.ref 0), some (.int 41)]) (Nat.le_of_ble_eq_true rfl) rfl ?_
  refine ex_aload_n dX3_expect_0 rfl rfl ?_
  refine ex_getI (s := 4) (x := 3) dX3_expect_1 rfl qp_2_50 rfl rfl (h.1) ?_
  refine ex_iload_n dX3_expect_4 rfl rfl ?_
  refine ex_icmp_ne (q := 15) (q2 := 8) dX3_expect_5 rfl rfl (fun _ => ?_) (fun hh => absurd (fun zz => absurd ((nI_eq (a := 3) (b := 41) (by decide) (by omega)).mp zz) (by omega)) hh)
  refine ex_aload_n dX3_expect_15 rfl rfl ?_
  refine ex_callV (a := 0) (rest := []) dX3_expect_16 rfl qp_2_53 rfl rfl rfl rfl rfl (Nat.le_of_ble_eq_true rfl) (hO) (Nat.le_of_ble_eq_true rfl) ?_
  show Ex (qm_layT ++ ext) _ mX3_expect 19 [some (.ref 0), some (.int 41)] [] σ' _ _
  exact ex_vret dX3_expect_19 rfl rfl rfl

set_option maxRecDepth 8000 in
set_option maxHeartbeats 2000000 in
theorem expect_59R {t : gt_T} (hk : gt_ok t) {ext : List qm_LE} {σ : qm_St} {i : Nat} {cs : List Nat} (h : RC t σ i cs) (hc : cs.length ≤ 160) : ∃ σ', Ok (qm_layT ++ ext) 5 mX3_expect [.ref 0, .int 59] σ none σ' ∧ PPc_ t σ' (if tk t i = 59 then .inr (i + 1, cs) else .inl i) ∧ sm σ σ' 1 7 0 1 := by
  have htk := tk_lt hk i
  by_cases c : tk t i = 59
  · rw [if_pos c]
    obtain ⟨σ', hO, hR, hs⟩ := nextR (ext := ext) hk h (by omega)
    refine ⟨σ', ?_, hR, hs.wid (by omega) (by omega)⟩
    refine Ok.of (ls := [some (.ref 0), some (.int 59)]) (Nat.le_of_ble_eq_true rfl) rfl ?_
    refine ex_aload_n dX3_expect_0 rfl rfl ?_
    refine ex_getI (s := 4) (x := nI (tk t i)) dX3_expect_1 rfl qp_2_50 rfl rfl (h.2.1.2.1) ?_
    refine ex_iload_n dX3_expect_4 rfl rfl ?_
    refine ex_icmp_ne (q := 15) (q2 := 8) dX3_expect_5 rfl rfl (fun hh => absurd hh (fun zz => zz (congrArg nI c))) (fun _ => ?_)
    refine ex_aload_n dX3_expect_8 rfl rfl ?_
    refine ex_callV (a := 0) (rest := []) dX3_expect_9 rfl qp_2_40 rfl rfl rfl rfl rfl (Nat.le_of_ble_eq_true rfl) (hO) (Nat.le_of_ble_eq_true rfl) ?_
    show Ex (qm_layT ++ ext) _ mX3_expect 12 [some (.ref 0), some (.int 59)] [] σ' _ _
    refine ex_goto (q := 19) dX3_expect_12 rfl ?_
    exact ex_vret dX3_expect_19 rfl rfl rfl
  · rw [if_neg c]
    obtain ⟨σ', hO, hF, hs⟩ := failR (ext := ext) hk h hc
    refine ⟨σ', ?_, hF, hs⟩
    refine Ok.of (ls := [some (.ref 0), some (.int 59)]) (Nat.le_of_ble_eq_true rfl) rfl ?_
    refine ex_aload_n dX3_expect_0 rfl rfl ?_
    refine ex_getI (s := 4) (x := nI (tk t i)) dX3_expect_1 rfl qp_2_50 rfl rfl (h.2.1.2.1) ?_
    refine ex_iload_n dX3_expect_4 rfl rfl ?_
    refine ex_icmp_ne (q := 15) (q2 := 8) dX3_expect_5 rfl rfl (fun _ => ?_) (fun hh => absurd (fun zz => c ((nI_eq (b := 59) (by omega) (by omega)).mp zz)) hh)
    refine ex_aload_n dX3_expect_15 rfl rfl ?_
    refine ex_callV (a := 0) (rest := []) dX3_expect_16 rfl qp_2_53 rfl rfl rfl rfl rfl (Nat.le_of_ble_eq_true rfl) (hO) (Nat.le_of_ble_eq_true rfl) ?_
    show Ex (qm_layT ++ ext) _ mX3_expect 19 [some (.ref 0), some (.int 59)] [] σ' _ _
    exact ex_vret dX3_expect_19 rfl rfl rfl

set_option maxRecDepth 8000 in
set_option maxHeartbeats 2000000 in
theorem expect_59F {t : gt_T} (hk : gt_ok t) {ext : List qm_LE} {σ : qm_St} {e : Nat} (h : FC t σ e) : ∃ σ', Ok (qm_layT ++ ext) 5 mX3_expect [.ref 0, .int 59] σ none σ' ∧ FC t σ' e ∧ sm σ σ' 1 7 0 1 := by
  obtain ⟨σ', hO, hF, hs⟩ := failF (ext := ext) hk h
  refine ⟨σ', ?_, hF, hs⟩
  refine Ok.of (ls := [some (.ref 0), some (.int 59)]) (Nat.le_of_ble_eq_true rfl) rfl ?_
  refine ex_aload_n dX3_expect_0 rfl rfl ?_
  refine ex_getI (s := 4) (x := 3) dX3_expect_1 rfl qp_2_50 rfl rfl (h.1) ?_
  refine ex_iload_n dX3_expect_4 rfl rfl ?_
  refine ex_icmp_ne (q := 15) (q2 := 8) dX3_expect_5 rfl rfl (fun _ => ?_) (fun hh => absurd (fun zz => absurd ((nI_eq (a := 3) (b := 59) (by decide) (by omega)).mp zz) (by omega)) hh)
  refine ex_aload_n dX3_expect_15 rfl rfl ?_
  refine ex_callV (a := 0) (rest := []) dX3_expect_16 rfl qp_2_53 rfl rfl rfl rfl rfl (Nat.le_of_ble_eq_true rfl) (hO) (Nat.le_of_ble_eq_true rfl) ?_
  show Ex (qm_layT ++ ext) _ mX3_expect 19 [some (.ref 0), some (.int 59)] [] σ' _ _
  exact ex_vret dX3_expect_19 rfl rfl rfl

set_option maxRecDepth 8000 in
set_option maxHeartbeats 2000000 in
theorem expect_keyR {t : gt_T} (hk : gt_ok t) {ext : List qm_LE} {d : Nat} (hd : 4 ≤ d ∧ d ≤ 6) {σ : qm_St} {i : Nat} {cs : List Nat} (h : RC t σ i cs) (hc : cs.length ≤ 160) : ∃ σ', Ok (qm_layT ++ ext) 5 mX3_expect [.ref 0, .int (nI d)] σ none σ' ∧ PPc_ t σ' (if tk t i = d then .inr (i + 1, cs) else .inl i) ∧ sm σ σ' 1 7 0 1 := by
  have htk := tk_lt hk i
  by_cases c : tk t i = d
  · rw [if_pos c]
    obtain ⟨σ', hO, hR, hs⟩ := nextR (ext := ext) hk h (by omega)
    refine ⟨σ', ?_, hR, hs.wid (by omega) (by omega)⟩
    refine Ok.of (ls := [some (.ref 0), some (.int (nI d))]) (Nat.le_of_ble_eq_true rfl) rfl ?_
    refine ex_aload_n dX3_expect_0 rfl rfl ?_
    refine ex_getI (s := 4) (x := nI (tk t i)) dX3_expect_1 rfl qp_2_50 rfl rfl (h.2.1.2.1) ?_
    refine ex_iload_n dX3_expect_4 rfl rfl ?_
    refine ex_icmp_ne (q := 15) (q2 := 8) dX3_expect_5 rfl rfl (fun hh => absurd hh (fun zz => zz (congrArg nI c))) (fun _ => ?_)
    refine ex_aload_n dX3_expect_8 rfl rfl ?_
    refine ex_callV (a := 0) (rest := []) dX3_expect_9 rfl qp_2_40 rfl rfl rfl rfl rfl (Nat.le_of_ble_eq_true rfl) (hO) (Nat.le_of_ble_eq_true rfl) ?_
    show Ex (qm_layT ++ ext) _ mX3_expect 12 [some (.ref 0), some (.int (nI d))] [] σ' _ _
    refine ex_goto (q := 19) dX3_expect_12 rfl ?_
    exact ex_vret dX3_expect_19 rfl rfl rfl
  · rw [if_neg c]
    obtain ⟨σ', hO, hF, hs⟩ := failR (ext := ext) hk h hc
    refine ⟨σ', ?_, hF, hs⟩
    refine Ok.of (ls := [some (.ref 0), some (.int (nI d))]) (Nat.le_of_ble_eq_true rfl) rfl ?_
    refine ex_aload_n dX3_expect_0 rfl rfl ?_
    refine ex_getI (s := 4) (x := nI (tk t i)) dX3_expect_1 rfl qp_2_50 rfl rfl (h.2.1.2.1) ?_
    refine ex_iload_n dX3_expect_4 rfl rfl ?_
    refine ex_icmp_ne (q := 15) (q2 := 8) dX3_expect_5 rfl rfl (fun _ => ?_) (fun hh => absurd (fun zz => c ((nI_eq (b := d) (by omega) (by omega)).mp zz)) hh)
    refine ex_aload_n dX3_expect_15 rfl rfl ?_
    refine ex_callV (a := 0) (rest := []) dX3_expect_16 rfl qp_2_53 rfl rfl rfl rfl rfl (Nat.le_of_ble_eq_true rfl) (hO) (Nat.le_of_ble_eq_true rfl) ?_
    show Ex (qm_layT ++ ext) _ mX3_expect 19 [some (.ref 0), some (.int (nI d))] [] σ' _ _
    exact ex_vret dX3_expect_19 rfl rfl rfl

set_option maxRecDepth 8000 in
set_option maxHeartbeats 2000000 in
theorem expect_keyF {t : gt_T} (hk : gt_ok t) {ext : List qm_LE} {d : Nat} (hd : 4 ≤ d ∧ d ≤ 6) {σ : qm_St} {e : Nat} (h : FC t σ e) : ∃ σ', Ok (qm_layT ++ ext) 5 mX3_expect [.ref 0, .int (nI d)] σ none σ' ∧ FC t σ' e ∧ sm σ σ' 1 7 0 1 := by
  obtain ⟨σ', hO, hF, hs⟩ := failF (ext := ext) hk h
  refine ⟨σ', ?_, hF, hs⟩
  refine Ok.of (ls := [some (.ref 0), some (.int (nI d))]) (Nat.le_of_ble_eq_true rfl) rfl ?_
  refine ex_aload_n dX3_expect_0 rfl rfl ?_
  refine ex_getI (s := 4) (x := 3) dX3_expect_1 rfl qp_2_50 rfl rfl (h.1) ?_
  refine ex_iload_n dX3_expect_4 rfl rfl ?_
  refine ex_icmp_ne (q := 15) (q2 := 8) dX3_expect_5 rfl rfl (fun _ => ?_) (fun hh => absurd (fun zz => absurd ((nI_eq (a := 3) (b := d) (by decide) (by omega)).mp zz) (by omega)) hh)
  refine ex_aload_n dX3_expect_15 rfl rfl ?_
  refine ex_callV (a := 0) (rest := []) dX3_expect_16 rfl qp_2_53 rfl rfl rfl rfl rfl (Nat.le_of_ble_eq_true rfl) (hO) (Nat.le_of_ble_eq_true rfl) ?_
  show Ex (qm_layT ++ ext) _ mX3_expect 19 [some (.ref 0), some (.int (nI d))] [] σ' _ _
  exact ex_vret dX3_expect_19 rfl rfl rfl

set_option maxRecDepth 8000 in
set_option maxHeartbeats 2000000 in
theorem mayOpenF {t : gt_T} (hk : gt_ok t) {ext : List qm_LE} {σ : qm_St} {i : Nat} {cs : List Nat} (h : RC t σ i cs) (hc : cs.length ≤ 160) : ∃ σ', Ok (qm_layT ++ ext) 1 mX3_mayOpen [.ref 0, .int (nI 5)] σ (some (.int 0)) σ' ∧ FC t σ' i ∧ sm σ σ' 1 7 0 1 := by
  obtain ⟨σ', hO, hF, hs⟩ := failR (ext := ext) hk h hc
  refine ⟨σ', ?_, hF, hs⟩
  refine Ok.of (ls := [some (.ref 0), some (.int (nI 5))]) (Nat.le_of_ble_eq_true rfl) rfl ?_
  refine ex_iload_n dX3_mayOpen_0 rfl rfl ?_
  refine ex_iconst (x := 5) dX3_mayOpen_1 rfl rfl ?_
  refine ex_icmp_lt (q := 11) (q2 := 5) dX3_mayOpen_2 rfl rfl (fun hh => absurd hh (by decide)) (fun _ => ?_)
  refine ex_aload_n dX3_mayOpen_5 rfl rfl ?_
  refine ex_callV (a := 0) (rest := []) dX3_mayOpen_6 rfl qp_2_53 rfl rfl rfl rfl rfl (Nat.le_of_ble_eq_true rfl) (hO) (Nat.le_of_ble_eq_true rfl) ?_
  show Ex (qm_layT ++ ext) _ mX3_mayOpen 9 [some (.ref 0), some (.int (nI 5))] [] σ' _ _
  refine ex_iconst (x := 0) dX3_mayOpen_9 rfl rfl ?_
  exact ex_zret dX3_mayOpen_10 rfl (by decide) rfl rfl

set_option maxRecDepth 8000 in
set_option maxHeartbeats 2000000 in
theorem lTermF {t : gt_T} (hk : gt_ok t) {ext : List qm_LE} {D o : Nat} : ∀ (k : Nat) (e : Nat) (σ : qm_St), k ≤ 160 → FC t σ e → Ex (qm_layT ++ ext) (D + 1) mX3_readTerm 7 [some (.ref 0), some (.int (nI o)), some (.int (nI k))] [] σ none σ := by
  intro k e σ hk2 h
  by_cases ck : k < 160
  · refine ex_iload_n dX3_readTerm_7 rfl rfl ?_
    refine ex_sipush (x := 160) dX3_readTerm_8 rfl rfl ?_
    refine ex_icmp_ge (q := 45) (q2 := 14) dX3_readTerm_11 rfl rfl (fun hh => absurd hh (nI_ge (a := k) (b := 160) (by omega) (by omega))) (fun _ => ?_)
    refine ex_aload_n dX3_readTerm_14 rfl rfl ?_
    refine ex_getI (s := 4) (x := 3) dX3_readTerm_15 rfl qp_2_50 rfl rfl (h.1) ?_
    refine ex_bipush (x := 42) dX3_readTerm_18 rfl rfl ?_
    refine ex_icmp_ne (q := 45) (q2 := 23) dX3_readTerm_20 rfl rfl (fun _ => ?_) (fun hh => absurd (by decide) hh)
    exact ex_vret dX3_readTerm_45 rfl rfl rfl
  · refine ex_iload_n dX3_readTerm_7 rfl rfl ?_
    refine ex_sipush (x := 160) dX3_readTerm_8 rfl rfl ?_
    refine ex_icmp_ge (q := 45) (q2 := 14) dX3_readTerm_11 rfl rfl (fun _ => ?_) (fun hh => absurd (nI_le (a := 160) (b := k) (by omega) (by omega)) hh)
    exact ex_vret dX3_readTerm_45 rfl rfl rfl

set_option maxRecDepth 8000 in
set_option maxHeartbeats 2000000 in
theorem lTermR {t : gt_T} (hk : gt_ok t) {ext : List qm_LE} {D o b : Nat} {p : tF} (hp : OwC t ext D mX3_readOne o p) (hg : GP t b p) (hD : 7 ≤ D) : ∀ (f k : Nat) (j : Nat) (c : List Nat) (σ : qm_St), k + f = 160 → RC t σ j c → c.length ≤ j → j ≤ 160 → ∃ σ', Ex (qm_layT ++ ext) (D + 1) mX3_readTerm 7 [some (.ref 0), some (.int (nI o)), some (.int (nI k))] [] σ none σ' ∧ PPc_ t σ' (gLp t p oM f j c) ∧ sm σ σ' 1 7 0 1 := by
  have ht := hk.1
  intro f
  induction f with
  | zero =>
    intro k j c σ hkf h hc hj
    refine ⟨σ, ?_, h, sm.rf _ _ _ _ _⟩
    refine ex_iload_n dX3_readTerm_7 rfl rfl ?_
    refine ex_sipush (x := 160) dX3_readTerm_8 rfl rfl ?_
    refine ex_icmp_ge (q := 45) (q2 := 14) dX3_readTerm_11 rfl rfl (fun _ => ?_) (fun hh => absurd (nI_le (a := 160) (b := k) (by omega) (by omega)) hh)
    exact ex_vret dX3_readTerm_45 rfl rfl rfl
  | succ f ih =>
    intro k j c σ hkf h hc hj
    have htk := tk_lt hk j
    by_cases c1 : tk t j = 42
    · skip
      have eop : oM (tk t j) = true := by rw [c1]; rfl
      rw [show gLp t p oM (f + 1) j c = rb (p (j + 1) c) (fun k d => gLp t p oM f k (d ++ [20000 + tk t j])) by show (if oM (tk t j) = true then _ else _) = _; rw [if_pos eop]]
      have hj160 := (tk_n0 (t := t) (i := j) (by omega)).2
      obtain ⟨σ1, hO1, hR1, hs1⟩ := nextR (ext := ext) hk h (by omega)
      obtain ⟨σ2, hO2, hP2, hs2⟩ := hp.1 (j + 1) c σ1 hR1 (by omega) (by omega)
      cases e : p (j + 1) c with
      | inl e1 =>
        rw [e] at hP2
        obtain ⟨σ3, hO3, hF3, hs3⟩ := addF (ext := ext) hP2 (20000 + tk t j)
        rw [c1] at hO3
        have hE := lTermF hk (ext := ext) (D := D) (o := o) (k + 1) e1 σ3 (by omega) hF3
        refine ⟨σ3, ?_, hF3, (hs1.wid (by omega) (by omega)).tr (hs2.tr hs3)⟩
        refine ex_iload_n dX3_readTerm_7 rfl rfl ?_
        refine ex_sipush (x := 160) dX3_readTerm_8 rfl rfl ?_
        refine ex_icmp_ge (q := 45) (q2 := 14) dX3_readTerm_11 rfl rfl (fun hh => absurd hh (nI_ge (a := k) (b := 160) (by omega) (by omega))) (fun _ => ?_)
        refine ex_aload_n dX3_readTerm_14 rfl rfl ?_
        refine ex_getI (s := 4) (x := nI (tk t j)) dX3_readTerm_15 rfl qp_2_50 rfl rfl (h.2.1.2.1) ?_
        refine ex_bipush (x := 42) dX3_readTerm_18 rfl rfl ?_
        refine ex_icmp_ne (q := 45) (q2 := 23) dX3_readTerm_20 rfl rfl (fun hh => absurd hh (fun zz => zz (congrArg nI (show (tk t j) = 42 by omega)))) (fun _ => ?_)
        refine ex_aload_n dX3_readTerm_23 rfl rfl ?_
        refine ex_callV (a := 0) (rest := []) dX3_readTerm_24 rfl qp_2_40 rfl rfl rfl rfl rfl (Nat.le_of_ble_eq_true rfl) (hO1) (by omega) ?_
        show Ex (qm_layT ++ ext) _ mX3_readTerm 27 [some (.ref 0), some (.int (nI o)), some (.int (nI k))] [] σ1 _ _
        refine ex_aload_n dX3_readTerm_27 rfl rfl ?_
        refine ex_iload_n dX3_readTerm_28 rfl rfl ?_
        refine ex_callV (a := 0) (rest := []) dX3_readTerm_29 rfl qp_2_78 rfl rfl rfl rfl rfl (Nat.le_of_ble_eq_true rfl) (hO2) (by omega) ?_
        show Ex (qm_layT ++ ext) _ mX3_readTerm 32 [some (.ref 0), some (.int (nI o)), some (.int (nI k))] [] σ2 _ _
        refine ex_aload_n dX3_readTerm_32 rfl rfl ?_
        refine ex_sipush (x := 20042) dX3_readTerm_33 rfl rfl ?_
        refine ex_callV (a := 0) (rest := []) dX3_readTerm_36 rfl qp_2_62 rfl rfl rfl rfl rfl (Nat.le_of_ble_eq_true rfl) (hO3) (by omega) ?_
        show Ex (qm_layT ++ ext) _ mX3_readTerm 39 [some (.ref 0), some (.int (nI o)), some (.int (nI k))] [] σ3 _ _
        refine ex_iinc (y := nI (k + 1)) (ls' := [some (.ref 0), some (.int (nI o)), some (.int (nI (k + 1)))]) dX3_readTerm_39 rfl rfl rfl (nI_add k 1) rfl ?_
        refine ex_goto (q := 7) dX3_readTerm_42 rfl ?_
        exact hE
      | inr q =>
        rw [e] at hP2
        obtain ⟨g1, g2, g3⟩ := GP_le ht hg e (n := 1) (by omega)
        obtain ⟨σ3, hO3, hR3, hs3⟩ := addR (ext := ext) hP2 (by omega) (20000 + tk t j)
        obtain ⟨σ4, hE, hP4, hs4⟩ := ih (k + 1) q.1 (q.2 ++ [20000 + tk t j]) σ3 (by omega) hR3 (by rw [List.length_append]; show q.2.length + 1 ≤ q.1; omega) g2
        rw [c1] at hO3
        refine ⟨σ4, ?_, hP4, (hs1.wid (by omega) (by omega)).tr (hs2.tr (hs3.tr hs4))⟩
        refine ex_iload_n dX3_readTerm_7 rfl rfl ?_
        refine ex_sipush (x := 160) dX3_readTerm_8 rfl rfl ?_
        refine ex_icmp_ge (q := 45) (q2 := 14) dX3_readTerm_11 rfl rfl (fun hh => absurd hh (nI_ge (a := k) (b := 160) (by omega) (by omega))) (fun _ => ?_)
        refine ex_aload_n dX3_readTerm_14 rfl rfl ?_
        refine ex_getI (s := 4) (x := nI (tk t j)) dX3_readTerm_15 rfl qp_2_50 rfl rfl (h.2.1.2.1) ?_
        refine ex_bipush (x := 42) dX3_readTerm_18 rfl rfl ?_
        refine ex_icmp_ne (q := 45) (q2 := 23) dX3_readTerm_20 rfl rfl (fun hh => absurd hh (fun zz => zz (congrArg nI (show (tk t j) = 42 by omega)))) (fun _ => ?_)
        refine ex_aload_n dX3_readTerm_23 rfl rfl ?_
        refine ex_callV (a := 0) (rest := []) dX3_readTerm_24 rfl qp_2_40 rfl rfl rfl rfl rfl (Nat.le_of_ble_eq_true rfl) (hO1) (by omega) ?_
        show Ex (qm_layT ++ ext) _ mX3_readTerm 27 [some (.ref 0), some (.int (nI o)), some (.int (nI k))] [] σ1 _ _
        refine ex_aload_n dX3_readTerm_27 rfl rfl ?_
        refine ex_iload_n dX3_readTerm_28 rfl rfl ?_
        refine ex_callV (a := 0) (rest := []) dX3_readTerm_29 rfl qp_2_78 rfl rfl rfl rfl rfl (Nat.le_of_ble_eq_true rfl) (hO2) (by omega) ?_
        show Ex (qm_layT ++ ext) _ mX3_readTerm 32 [some (.ref 0), some (.int (nI o)), some (.int (nI k))] [] σ2 _ _
        refine ex_aload_n dX3_readTerm_32 rfl rfl ?_
        refine ex_sipush (x := 20042) dX3_readTerm_33 rfl rfl ?_
        refine ex_callV (a := 0) (rest := []) dX3_readTerm_36 rfl qp_2_62 rfl rfl rfl rfl rfl (Nat.le_of_ble_eq_true rfl) (hO3) (by omega) ?_
        show Ex (qm_layT ++ ext) _ mX3_readTerm 39 [some (.ref 0), some (.int (nI o)), some (.int (nI k))] [] σ3 _ _
        refine ex_iinc (y := nI (k + 1)) (ls' := [some (.ref 0), some (.int (nI o)), some (.int (nI (k + 1)))]) dX3_readTerm_39 rfl rfl rfl (nI_add k 1) rfl ?_
        refine ex_goto (q := 7) dX3_readTerm_42 rfl ?_
        exact hE
    · rw [show gLp t p oM (f + 1) j c = .inr (j, c) from gLp_no t (decide_eq_false c1) _ _]
      refine ⟨σ, ?_, h, sm.rf _ _ _ _ _⟩
      refine ex_iload_n dX3_readTerm_7 rfl rfl ?_
      refine ex_sipush (x := 160) dX3_readTerm_8 rfl rfl ?_
      refine ex_icmp_ge (q := 45) (q2 := 14) dX3_readTerm_11 rfl rfl (fun hh => absurd hh (nI_ge (a := k) (b := 160) (by omega) (by omega))) (fun _ => ?_)
      refine ex_aload_n dX3_readTerm_14 rfl rfl ?_
      refine ex_getI (s := 4) (x := nI (tk t j)) dX3_readTerm_15 rfl qp_2_50 rfl rfl (h.2.1.2.1) ?_
      refine ex_bipush (x := 42) dX3_readTerm_18 rfl rfl ?_
      refine ex_icmp_ne (q := 45) (q2 := 23) dX3_readTerm_20 rfl rfl (fun _ => ?_) (fun hh => absurd (fun zz => c1 ((nI_eq (by omega) (by decide)).mp zz)) hh)
      exact ex_vret dX3_readTerm_45 rfl rfl rfl

set_option maxRecDepth 8000 in
set_option maxHeartbeats 2000000 in
theorem hTerm {t : gt_T} (hk : gt_ok t) {ext : List qm_LE} {D o b : Nat} {p : tF} (hp : OwC t ext D mX3_readOne o p) (hg : GP t b p) (hD : 7 ≤ D) : OwC t ext (D + 1) mX3_readTerm o (fun i cs => rb (p i cs) (gLp t p oM 160)) := by
  have ht := hk.1
  refine ⟨fun i cs σ h hc hi => ?_, fun e σ h => ?_⟩
  · show ∃ σ', Ok (qm_layT ++ ext) (D + 1) mX3_readTerm _ σ none σ' ∧ PPc_ t σ' (rb (p i cs) (gLp t p oM 160)) ∧ sm σ σ' 1 7 0 1
    obtain ⟨σ1, hO1, hP1, hs1⟩ := hp.1 i cs σ h hc hi
    cases e : p i cs with
    | inl e1 =>
      rw [e] at hP1
      have hE := lTermF hk (ext := ext) (D := D) (o := o) 0 e1 σ1 (by omega) hP1
      refine ⟨σ1, ?_, hP1, hs1⟩
      refine Ok.of (ls := [some (.ref 0), some (.int (nI o)), none]) (Nat.le_of_ble_eq_true rfl) rfl ?_
      refine ex_aload_n dX3_readTerm_0 rfl rfl ?_
      refine ex_iload_n dX3_readTerm_1 rfl rfl ?_
      refine ex_callV (a := 0) (rest := []) dX3_readTerm_2 rfl qp_2_78 rfl rfl rfl rfl rfl (Nat.le_of_ble_eq_true rfl) (hO1) (by omega) ?_
      show Ex (qm_layT ++ ext) _ mX3_readTerm 5 [some (.ref 0), some (.int (nI o)), none] [] σ1 _ _
      refine ex_iconst (x := 0) dX3_readTerm_5 rfl rfl ?_
      refine ex_istore_n (ls' := [some (.ref 0), some (.int (nI o)), some (.int 0)]) dX3_readTerm_6 rfl (Nat.le_of_ble_eq_true rfl) rfl rfl ?_
      exact hE
    | inr q =>
      rw [e] at hP1
      obtain ⟨g1, g2, g3⟩ := GP_le ht hg e (n := 0) (by omega)
      obtain ⟨σ2, hE, hP2, hs2⟩ := lTermR hk hp hg hD 160 0 q.1 q.2 σ1 (by omega) hP1 (by omega) g2
      refine ⟨σ2, ?_, hP2, hs1.tr hs2⟩
      refine Ok.of (ls := [some (.ref 0), some (.int (nI o)), none]) (Nat.le_of_ble_eq_true rfl) rfl ?_
      refine ex_aload_n dX3_readTerm_0 rfl rfl ?_
      refine ex_iload_n dX3_readTerm_1 rfl rfl ?_
      refine ex_callV (a := 0) (rest := []) dX3_readTerm_2 rfl qp_2_78 rfl rfl rfl rfl rfl (Nat.le_of_ble_eq_true rfl) (hO1) (by omega) ?_
      show Ex (qm_layT ++ ext) _ mX3_readTerm 5 [some (.ref 0), some (.int (nI o)), none] [] σ1 _ _
      refine ex_iconst (x := 0) dX3_readTerm_5 rfl rfl ?_
      refine ex_istore_n (ls' := [some (.ref 0), some (.int (nI o)), some (.int 0)]) dX3_readTerm_6 rfl (Nat.le_of_ble_eq_true rfl) rfl rfl ?_
      exact hE
  · obtain ⟨σ1, hO1, hF1, hs1⟩ := hp.2 e σ h
    have hE := lTermF hk (ext := ext) (D := D) (o := o) 0 e σ1 (by omega) hF1
    refine ⟨σ1, ?_, hF1, hs1⟩
    refine Ok.of (ls := [some (.ref 0), some (.int (nI o)), none]) (Nat.le_of_ble_eq_true rfl) rfl ?_
    refine ex_aload_n dX3_readTerm_0 rfl rfl ?_
    refine ex_iload_n dX3_readTerm_1 rfl rfl ?_
    refine ex_callV (a := 0) (rest := []) dX3_readTerm_2 rfl qp_2_78 rfl rfl rfl rfl rfl (Nat.le_of_ble_eq_true rfl) (hO1) (by omega) ?_
    show Ex (qm_layT ++ ext) _ mX3_readTerm 5 [some (.ref 0), some (.int (nI o)), none] [] σ1 _ _
    refine ex_iconst (x := 0) dX3_readTerm_5 rfl rfl ?_
    refine ex_istore_n (ls' := [some (.ref 0), some (.int (nI o)), some (.int 0)]) dX3_readTerm_6 rfl (Nat.le_of_ble_eq_true rfl) rfl rfl ?_
    exact hE

set_option maxRecDepth 8000 in
set_option maxHeartbeats 2000000 in
theorem lSumF {t : gt_T} (hk : gt_ok t) {ext : List qm_LE} {D o : Nat} : ∀ (k : Nat) (x : Option Value) (e : Nat) (σ : qm_St), k ≤ 160 → FC t σ e → Ex (qm_layT ++ ext) (D + 1) mX3_readSum 7 [some (.ref 0), some (.int (nI o)), some (.int (nI k)), x] [] σ none σ := by
  intro k x e σ hk2 h
  by_cases ck : k < 160
  · refine ex_iload_n dX3_readSum_7 rfl rfl ?_
    refine ex_sipush (x := 160) dX3_readSum_8 rfl rfl ?_
    refine ex_icmp_ge (q := 61) (q2 := 14) dX3_readSum_11 rfl rfl (fun hh => absurd hh (nI_ge (a := k) (b := 160) (by omega) (by omega))) (fun _ => ?_)
    refine ex_aload_n dX3_readSum_14 rfl rfl ?_
    refine ex_getI (s := 4) (x := 3) dX3_readSum_15 rfl qp_2_50 rfl rfl (h.1) ?_
    refine ex_bipush (x := 43) dX3_readSum_18 rfl rfl ?_
    refine ex_icmp_eq (q := 32) (q2 := 23) dX3_readSum_20 rfl rfl (fun hh => absurd hh (by decide)) (fun _ => ?_)
    refine ex_aload_n dX3_readSum_23 rfl rfl ?_
    refine ex_getI (s := 4) (x := 3) dX3_readSum_24 rfl qp_2_50 rfl rfl (h.1) ?_
    refine ex_bipush (x := 45) dX3_readSum_27 rfl rfl ?_
    refine ex_icmp_ne (q := 61) (q2 := 32) dX3_readSum_29 rfl rfl (fun _ => ?_) (fun hh => absurd (by decide) hh)
    exact ex_vret dX3_readSum_61 rfl rfl rfl
  · refine ex_iload_n dX3_readSum_7 rfl rfl ?_
    refine ex_sipush (x := 160) dX3_readSum_8 rfl rfl ?_
    refine ex_icmp_ge (q := 61) (q2 := 14) dX3_readSum_11 rfl rfl (fun _ => ?_) (fun hh => absurd (nI_le (a := 160) (b := k) (by omega) (by omega)) hh)
    exact ex_vret dX3_readSum_61 rfl rfl rfl

set_option maxRecDepth 8000 in
set_option maxHeartbeats 2000000 in
theorem lSumR {t : gt_T} (hk : gt_ok t) {ext : List qm_LE} {D o b : Nat} {p : tF} (hp : OwC t ext D mX3_readTerm o p) (hg : GP t b p) (hD : 7 ≤ D) : ∀ (f k : Nat) (x : Option Value) (j : Nat) (c : List Nat) (σ : qm_St), k + f = 160 → RC t σ j c → c.length ≤ j → j ≤ 160 → ∃ σ', Ex (qm_layT ++ ext) (D + 1) mX3_readSum 7 [some (.ref 0), some (.int (nI o)), some (.int (nI k)), x] [] σ none σ' ∧ PPc_ t σ' (gLp t p oP f j c) ∧ sm σ σ' 1 7 0 1 := by
  have ht := hk.1
  intro f
  induction f with
  | zero =>
    intro k x j c σ hkf h hc hj
    refine ⟨σ, ?_, h, sm.rf _ _ _ _ _⟩
    refine ex_iload_n dX3_readSum_7 rfl rfl ?_
    refine ex_sipush (x := 160) dX3_readSum_8 rfl rfl ?_
    refine ex_icmp_ge (q := 61) (q2 := 14) dX3_readSum_11 rfl rfl (fun _ => ?_) (fun hh => absurd (nI_le (a := 160) (b := k) (by omega) (by omega)) hh)
    exact ex_vret dX3_readSum_61 rfl rfl rfl
  | succ f ih =>
    intro k x j c σ hkf h hc hj
    have htk := tk_lt hk j
    by_cases c1 : tk t j = 43
    · skip
      have eop : oP (tk t j) = true := by rw [c1]; rfl
      rw [show gLp t p oP (f + 1) j c = rb (p (j + 1) c) (fun k d => gLp t p oP f k (d ++ [20000 + tk t j])) by show (if oP (tk t j) = true then _ else _) = _; rw [if_pos eop]]
      have hj160 := (tk_n0 (t := t) (i := j) (by omega)).2
      obtain ⟨σ1, hO1, hR1, hs1⟩ := nextR (ext := ext) hk h (by omega)
      obtain ⟨σ2, hO2, hP2, hs2⟩ := hp.1 (j + 1) c σ1 hR1 (by omega) (by omega)
      cases e : p (j + 1) c with
      | inl e1 =>
        rw [e] at hP2
        obtain ⟨σ3, hO3, hF3, hs3⟩ := addF (ext := ext) hP2 (20000 + tk t j)
        have hE := lSumF hk (ext := ext) (D := D) (o := o) (k + 1) (some (.int (nI (tk t j)))) e1 σ3 (by omega) hF3
        refine ⟨σ3, ?_, hF3, (hs1.wid (by omega) (by omega)).tr (hs2.tr hs3)⟩
        refine ex_iload_n dX3_readSum_7 rfl rfl ?_
        refine ex_sipush (x := 160) dX3_readSum_8 rfl rfl ?_
        refine ex_icmp_ge (q := 61) (q2 := 14) dX3_readSum_11 rfl rfl (fun hh => absurd hh (nI_ge (a := k) (b := 160) (by omega) (by omega))) (fun _ => ?_)
        refine ex_aload_n dX3_readSum_14 rfl rfl ?_
        refine ex_getI (s := 4) (x := nI (tk t j)) dX3_readSum_15 rfl qp_2_50 rfl rfl (h.2.1.2.1) ?_
        refine ex_bipush (x := 43) dX3_readSum_18 rfl rfl ?_
        refine ex_icmp_eq (q := 32) (q2 := 23) dX3_readSum_20 rfl rfl (fun _ => ?_) (fun hh => absurd (congrArg nI (show (tk t j) = 43 by omega)) hh)
        refine ex_aload_n dX3_readSum_32 rfl rfl ?_
        refine ex_getI (s := 4) (x := nI (tk t j)) dX3_readSum_33 rfl qp_2_50 rfl rfl (h.2.1.2.1) ?_
        refine ex_istore_n (ls' := [some (.ref 0), some (.int (nI o)), some (.int (nI k)), some (.int (nI (tk t j)))]) dX3_readSum_36 rfl (Nat.le_of_ble_eq_true rfl) rfl rfl ?_
        refine ex_aload_n dX3_readSum_37 rfl rfl ?_
        refine ex_callV (a := 0) (rest := []) dX3_readSum_38 rfl qp_2_40 rfl rfl rfl rfl rfl (Nat.le_of_ble_eq_true rfl) (hO1) (by omega) ?_
        show Ex (qm_layT ++ ext) _ mX3_readSum 41 [some (.ref 0), some (.int (nI o)), some (.int (nI k)), some (.int (nI (tk t j)))] [] σ1 _ _
        refine ex_aload_n dX3_readSum_41 rfl rfl ?_
        refine ex_iload_n dX3_readSum_42 rfl rfl ?_
        refine ex_callV (a := 0) (rest := []) dX3_readSum_43 rfl qp_2_75 rfl rfl rfl rfl rfl (Nat.le_of_ble_eq_true rfl) (hO2) (by omega) ?_
        show Ex (qm_layT ++ ext) _ mX3_readSum 46 [some (.ref 0), some (.int (nI o)), some (.int (nI k)), some (.int (nI (tk t j)))] [] σ2 _ _
        refine ex_aload_n dX3_readSum_46 rfl rfl ?_
        refine ex_sipush (x := 20000) dX3_readSum_47 rfl rfl ?_
        refine ex_iload_n dX3_readSum_50 rfl rfl ?_
        refine ex_iadd (z := nI (20000 + (tk t j))) dX3_readSum_51 rfl (nI_add 20000 (tk t j)) ?_
        refine ex_callV (a := 0) (rest := []) dX3_readSum_52 rfl qp_2_62 rfl rfl rfl rfl rfl (Nat.le_of_ble_eq_true rfl) (hO3) (by omega) ?_
        show Ex (qm_layT ++ ext) _ mX3_readSum 55 [some (.ref 0), some (.int (nI o)), some (.int (nI k)), some (.int (nI (tk t j)))] [] σ3 _ _
        refine ex_iinc (y := nI (k + 1)) (ls' := [some (.ref 0), some (.int (nI o)), some (.int (nI (k + 1))), some (.int (nI (tk t j)))]) dX3_readSum_55 rfl rfl rfl (nI_add k 1) rfl ?_
        refine ex_goto (q := 7) dX3_readSum_58 rfl ?_
        exact hE
      | inr q =>
        rw [e] at hP2
        obtain ⟨g1, g2, g3⟩ := GP_le ht hg e (n := 1) (by omega)
        obtain ⟨σ3, hO3, hR3, hs3⟩ := addR (ext := ext) hP2 (by omega) (20000 + tk t j)
        obtain ⟨σ4, hE, hP4, hs4⟩ := ih (k + 1) (some (.int (nI (tk t j)))) q.1 (q.2 ++ [20000 + tk t j]) σ3 (by omega) hR3 (by rw [List.length_append]; show q.2.length + 1 ≤ q.1; omega) g2
        refine ⟨σ4, ?_, hP4, (hs1.wid (by omega) (by omega)).tr (hs2.tr (hs3.tr hs4))⟩
        refine ex_iload_n dX3_readSum_7 rfl rfl ?_
        refine ex_sipush (x := 160) dX3_readSum_8 rfl rfl ?_
        refine ex_icmp_ge (q := 61) (q2 := 14) dX3_readSum_11 rfl rfl (fun hh => absurd hh (nI_ge (a := k) (b := 160) (by omega) (by omega))) (fun _ => ?_)
        refine ex_aload_n dX3_readSum_14 rfl rfl ?_
        refine ex_getI (s := 4) (x := nI (tk t j)) dX3_readSum_15 rfl qp_2_50 rfl rfl (h.2.1.2.1) ?_
        refine ex_bipush (x := 43) dX3_readSum_18 rfl rfl ?_
        refine ex_icmp_eq (q := 32) (q2 := 23) dX3_readSum_20 rfl rfl (fun _ => ?_) (fun hh => absurd (congrArg nI (show (tk t j) = 43 by omega)) hh)
        refine ex_aload_n dX3_readSum_32 rfl rfl ?_
        refine ex_getI (s := 4) (x := nI (tk t j)) dX3_readSum_33 rfl qp_2_50 rfl rfl (h.2.1.2.1) ?_
        refine ex_istore_n (ls' := [some (.ref 0), some (.int (nI o)), some (.int (nI k)), some (.int (nI (tk t j)))]) dX3_readSum_36 rfl (Nat.le_of_ble_eq_true rfl) rfl rfl ?_
        refine ex_aload_n dX3_readSum_37 rfl rfl ?_
        refine ex_callV (a := 0) (rest := []) dX3_readSum_38 rfl qp_2_40 rfl rfl rfl rfl rfl (Nat.le_of_ble_eq_true rfl) (hO1) (by omega) ?_
        show Ex (qm_layT ++ ext) _ mX3_readSum 41 [some (.ref 0), some (.int (nI o)), some (.int (nI k)), some (.int (nI (tk t j)))] [] σ1 _ _
        refine ex_aload_n dX3_readSum_41 rfl rfl ?_
        refine ex_iload_n dX3_readSum_42 rfl rfl ?_
        refine ex_callV (a := 0) (rest := []) dX3_readSum_43 rfl qp_2_75 rfl rfl rfl rfl rfl (Nat.le_of_ble_eq_true rfl) (hO2) (by omega) ?_
        show Ex (qm_layT ++ ext) _ mX3_readSum 46 [some (.ref 0), some (.int (nI o)), some (.int (nI k)), some (.int (nI (tk t j)))] [] σ2 _ _
        refine ex_aload_n dX3_readSum_46 rfl rfl ?_
        refine ex_sipush (x := 20000) dX3_readSum_47 rfl rfl ?_
        refine ex_iload_n dX3_readSum_50 rfl rfl ?_
        refine ex_iadd (z := nI (20000 + (tk t j))) dX3_readSum_51 rfl (nI_add 20000 (tk t j)) ?_
        refine ex_callV (a := 0) (rest := []) dX3_readSum_52 rfl qp_2_62 rfl rfl rfl rfl rfl (Nat.le_of_ble_eq_true rfl) (hO3) (by omega) ?_
        show Ex (qm_layT ++ ext) _ mX3_readSum 55 [some (.ref 0), some (.int (nI o)), some (.int (nI k)), some (.int (nI (tk t j)))] [] σ3 _ _
        refine ex_iinc (y := nI (k + 1)) (ls' := [some (.ref 0), some (.int (nI o)), some (.int (nI (k + 1))), some (.int (nI (tk t j)))]) dX3_readSum_55 rfl rfl rfl (nI_add k 1) rfl ?_
        refine ex_goto (q := 7) dX3_readSum_58 rfl ?_
        exact hE
    · by_cases c2 : tk t j = 45
      · have c43 := c1
        clear c1
        have c1 := c2
        have eop : oP (tk t j) = true := by rw [c1]; rfl
        rw [show gLp t p oP (f + 1) j c = rb (p (j + 1) c) (fun k d => gLp t p oP f k (d ++ [20000 + tk t j])) by show (if oP (tk t j) = true then _ else _) = _; rw [if_pos eop]]
        have hj160 := (tk_n0 (t := t) (i := j) (by omega)).2
        obtain ⟨σ1, hO1, hR1, hs1⟩ := nextR (ext := ext) hk h (by omega)
        obtain ⟨σ2, hO2, hP2, hs2⟩ := hp.1 (j + 1) c σ1 hR1 (by omega) (by omega)
        cases e : p (j + 1) c with
        | inl e1 =>
          rw [e] at hP2
          obtain ⟨σ3, hO3, hF3, hs3⟩ := addF (ext := ext) hP2 (20000 + tk t j)
          have hE := lSumF hk (ext := ext) (D := D) (o := o) (k + 1) (some (.int (nI (tk t j)))) e1 σ3 (by omega) hF3
          refine ⟨σ3, ?_, hF3, (hs1.wid (by omega) (by omega)).tr (hs2.tr hs3)⟩
          refine ex_iload_n dX3_readSum_7 rfl rfl ?_
          refine ex_sipush (x := 160) dX3_readSum_8 rfl rfl ?_
          refine ex_icmp_ge (q := 61) (q2 := 14) dX3_readSum_11 rfl rfl (fun hh => absurd hh (nI_ge (a := k) (b := 160) (by omega) (by omega))) (fun _ => ?_)
          refine ex_aload_n dX3_readSum_14 rfl rfl ?_
          refine ex_getI (s := 4) (x := nI (tk t j)) dX3_readSum_15 rfl qp_2_50 rfl rfl (h.2.1.2.1) ?_
          refine ex_bipush (x := 43) dX3_readSum_18 rfl rfl ?_
          refine ex_icmp_eq (q := 32) (q2 := 23) dX3_readSum_20 rfl rfl (fun hh => absurd hh (fun zz => absurd ((nI_eq (a := (tk t j)) (b := 43) (by omega) (by omega)).mp zz) (by omega))) (fun _ => ?_)
          refine ex_aload_n dX3_readSum_23 rfl rfl ?_
          refine ex_getI (s := 4) (x := nI (tk t j)) dX3_readSum_24 rfl qp_2_50 rfl rfl (h.2.1.2.1) ?_
          refine ex_bipush (x := 45) dX3_readSum_27 rfl rfl ?_
          refine ex_icmp_ne (q := 61) (q2 := 32) dX3_readSum_29 rfl rfl (fun hh => absurd hh (fun zz => zz (congrArg nI (show (tk t j) = 45 by omega)))) (fun _ => ?_)
          refine ex_aload_n dX3_readSum_32 rfl rfl ?_
          refine ex_getI (s := 4) (x := nI (tk t j)) dX3_readSum_33 rfl qp_2_50 rfl rfl (h.2.1.2.1) ?_
          refine ex_istore_n (ls' := [some (.ref 0), some (.int (nI o)), some (.int (nI k)), some (.int (nI (tk t j)))]) dX3_readSum_36 rfl (Nat.le_of_ble_eq_true rfl) rfl rfl ?_
          refine ex_aload_n dX3_readSum_37 rfl rfl ?_
          refine ex_callV (a := 0) (rest := []) dX3_readSum_38 rfl qp_2_40 rfl rfl rfl rfl rfl (Nat.le_of_ble_eq_true rfl) (hO1) (by omega) ?_
          show Ex (qm_layT ++ ext) _ mX3_readSum 41 [some (.ref 0), some (.int (nI o)), some (.int (nI k)), some (.int (nI (tk t j)))] [] σ1 _ _
          refine ex_aload_n dX3_readSum_41 rfl rfl ?_
          refine ex_iload_n dX3_readSum_42 rfl rfl ?_
          refine ex_callV (a := 0) (rest := []) dX3_readSum_43 rfl qp_2_75 rfl rfl rfl rfl rfl (Nat.le_of_ble_eq_true rfl) (hO2) (by omega) ?_
          show Ex (qm_layT ++ ext) _ mX3_readSum 46 [some (.ref 0), some (.int (nI o)), some (.int (nI k)), some (.int (nI (tk t j)))] [] σ2 _ _
          refine ex_aload_n dX3_readSum_46 rfl rfl ?_
          refine ex_sipush (x := 20000) dX3_readSum_47 rfl rfl ?_
          refine ex_iload_n dX3_readSum_50 rfl rfl ?_
          refine ex_iadd (z := nI (20000 + (tk t j))) dX3_readSum_51 rfl (nI_add 20000 (tk t j)) ?_
          refine ex_callV (a := 0) (rest := []) dX3_readSum_52 rfl qp_2_62 rfl rfl rfl rfl rfl (Nat.le_of_ble_eq_true rfl) (hO3) (by omega) ?_
          show Ex (qm_layT ++ ext) _ mX3_readSum 55 [some (.ref 0), some (.int (nI o)), some (.int (nI k)), some (.int (nI (tk t j)))] [] σ3 _ _
          refine ex_iinc (y := nI (k + 1)) (ls' := [some (.ref 0), some (.int (nI o)), some (.int (nI (k + 1))), some (.int (nI (tk t j)))]) dX3_readSum_55 rfl rfl rfl (nI_add k 1) rfl ?_
          refine ex_goto (q := 7) dX3_readSum_58 rfl ?_
          exact hE
        | inr q =>
          rw [e] at hP2
          obtain ⟨g1, g2, g3⟩ := GP_le ht hg e (n := 1) (by omega)
          obtain ⟨σ3, hO3, hR3, hs3⟩ := addR (ext := ext) hP2 (by omega) (20000 + tk t j)
          obtain ⟨σ4, hE, hP4, hs4⟩ := ih (k + 1) (some (.int (nI (tk t j)))) q.1 (q.2 ++ [20000 + tk t j]) σ3 (by omega) hR3 (by rw [List.length_append]; show q.2.length + 1 ≤ q.1; omega) g2
          refine ⟨σ4, ?_, hP4, (hs1.wid (by omega) (by omega)).tr (hs2.tr (hs3.tr hs4))⟩
          refine ex_iload_n dX3_readSum_7 rfl rfl ?_
          refine ex_sipush (x := 160) dX3_readSum_8 rfl rfl ?_
          refine ex_icmp_ge (q := 61) (q2 := 14) dX3_readSum_11 rfl rfl (fun hh => absurd hh (nI_ge (a := k) (b := 160) (by omega) (by omega))) (fun _ => ?_)
          refine ex_aload_n dX3_readSum_14 rfl rfl ?_
          refine ex_getI (s := 4) (x := nI (tk t j)) dX3_readSum_15 rfl qp_2_50 rfl rfl (h.2.1.2.1) ?_
          refine ex_bipush (x := 43) dX3_readSum_18 rfl rfl ?_
          refine ex_icmp_eq (q := 32) (q2 := 23) dX3_readSum_20 rfl rfl (fun hh => absurd hh (fun zz => absurd ((nI_eq (a := (tk t j)) (b := 43) (by omega) (by omega)).mp zz) (by omega))) (fun _ => ?_)
          refine ex_aload_n dX3_readSum_23 rfl rfl ?_
          refine ex_getI (s := 4) (x := nI (tk t j)) dX3_readSum_24 rfl qp_2_50 rfl rfl (h.2.1.2.1) ?_
          refine ex_bipush (x := 45) dX3_readSum_27 rfl rfl ?_
          refine ex_icmp_ne (q := 61) (q2 := 32) dX3_readSum_29 rfl rfl (fun hh => absurd hh (fun zz => zz (congrArg nI (show (tk t j) = 45 by omega)))) (fun _ => ?_)
          refine ex_aload_n dX3_readSum_32 rfl rfl ?_
          refine ex_getI (s := 4) (x := nI (tk t j)) dX3_readSum_33 rfl qp_2_50 rfl rfl (h.2.1.2.1) ?_
          refine ex_istore_n (ls' := [some (.ref 0), some (.int (nI o)), some (.int (nI k)), some (.int (nI (tk t j)))]) dX3_readSum_36 rfl (Nat.le_of_ble_eq_true rfl) rfl rfl ?_
          refine ex_aload_n dX3_readSum_37 rfl rfl ?_
          refine ex_callV (a := 0) (rest := []) dX3_readSum_38 rfl qp_2_40 rfl rfl rfl rfl rfl (Nat.le_of_ble_eq_true rfl) (hO1) (by omega) ?_
          show Ex (qm_layT ++ ext) _ mX3_readSum 41 [some (.ref 0), some (.int (nI o)), some (.int (nI k)), some (.int (nI (tk t j)))] [] σ1 _ _
          refine ex_aload_n dX3_readSum_41 rfl rfl ?_
          refine ex_iload_n dX3_readSum_42 rfl rfl ?_
          refine ex_callV (a := 0) (rest := []) dX3_readSum_43 rfl qp_2_75 rfl rfl rfl rfl rfl (Nat.le_of_ble_eq_true rfl) (hO2) (by omega) ?_
          show Ex (qm_layT ++ ext) _ mX3_readSum 46 [some (.ref 0), some (.int (nI o)), some (.int (nI k)), some (.int (nI (tk t j)))] [] σ2 _ _
          refine ex_aload_n dX3_readSum_46 rfl rfl ?_
          refine ex_sipush (x := 20000) dX3_readSum_47 rfl rfl ?_
          refine ex_iload_n dX3_readSum_50 rfl rfl ?_
          refine ex_iadd (z := nI (20000 + (tk t j))) dX3_readSum_51 rfl (nI_add 20000 (tk t j)) ?_
          refine ex_callV (a := 0) (rest := []) dX3_readSum_52 rfl qp_2_62 rfl rfl rfl rfl rfl (Nat.le_of_ble_eq_true rfl) (hO3) (by omega) ?_
          show Ex (qm_layT ++ ext) _ mX3_readSum 55 [some (.ref 0), some (.int (nI o)), some (.int (nI k)), some (.int (nI (tk t j)))] [] σ3 _ _
          refine ex_iinc (y := nI (k + 1)) (ls' := [some (.ref 0), some (.int (nI o)), some (.int (nI (k + 1))), some (.int (nI (tk t j)))]) dX3_readSum_55 rfl rfl rfl (nI_add k 1) rfl ?_
          refine ex_goto (q := 7) dX3_readSum_58 rfl ?_
          exact hE
      · rw [show gLp t p oP (f + 1) j c = .inr (j, c) from gLp_no t (by unfold oP; rw [decide_eq_false c1, decide_eq_false c2]; rfl) _ _]
        refine ⟨σ, ?_, h, sm.rf _ _ _ _ _⟩
        refine ex_iload_n dX3_readSum_7 rfl rfl ?_
        refine ex_sipush (x := 160) dX3_readSum_8 rfl rfl ?_
        refine ex_icmp_ge (q := 61) (q2 := 14) dX3_readSum_11 rfl rfl (fun hh => absurd hh (nI_ge (a := k) (b := 160) (by omega) (by omega))) (fun _ => ?_)
        refine ex_aload_n dX3_readSum_14 rfl rfl ?_
        refine ex_getI (s := 4) (x := nI (tk t j)) dX3_readSum_15 rfl qp_2_50 rfl rfl (h.2.1.2.1) ?_
        refine ex_bipush (x := 43) dX3_readSum_18 rfl rfl ?_
        refine ex_icmp_eq (q := 32) (q2 := 23) dX3_readSum_20 rfl rfl (fun hh => absurd hh (fun zz => c1 ((nI_eq (by omega) (by decide)).mp zz))) (fun _ => ?_)
        refine ex_aload_n dX3_readSum_23 rfl rfl ?_
        refine ex_getI (s := 4) (x := nI (tk t j)) dX3_readSum_24 rfl qp_2_50 rfl rfl (h.2.1.2.1) ?_
        refine ex_bipush (x := 45) dX3_readSum_27 rfl rfl ?_
        refine ex_icmp_ne (q := 61) (q2 := 32) dX3_readSum_29 rfl rfl (fun _ => ?_) (fun hh => absurd (fun zz => c2 ((nI_eq (by omega) (by decide)).mp zz)) hh)
        exact ex_vret dX3_readSum_61 rfl rfl rfl

set_option maxRecDepth 8000 in
set_option maxHeartbeats 2000000 in
theorem hSum {t : gt_T} (hk : gt_ok t) {ext : List qm_LE} {D o b : Nat} {p : tF} (hp : OwC t ext D mX3_readTerm o p) (hg : GP t b p) (hD : 7 ≤ D) : OwC t ext (D + 1) mX3_readSum o (fun i cs => rb (p i cs) (gLp t p oP 160)) := by
  have ht := hk.1
  refine ⟨fun i cs σ h hc hi => ?_, fun e σ h => ?_⟩
  · show ∃ σ', Ok (qm_layT ++ ext) (D + 1) mX3_readSum _ σ none σ' ∧ PPc_ t σ' (rb (p i cs) (gLp t p oP 160)) ∧ sm σ σ' 1 7 0 1
    obtain ⟨σ1, hO1, hP1, hs1⟩ := hp.1 i cs σ h hc hi
    cases e : p i cs with
    | inl e1 =>
      rw [e] at hP1
      have hE := lSumF hk (ext := ext) (D := D) (o := o) 0 none e1 σ1 (by omega) hP1
      refine ⟨σ1, ?_, hP1, hs1⟩
      refine Ok.of (ls := [some (.ref 0), some (.int (nI o)), none, none]) (Nat.le_of_ble_eq_true rfl) rfl ?_
      refine ex_aload_n dX3_readSum_0 rfl rfl ?_
      refine ex_iload_n dX3_readSum_1 rfl rfl ?_
      refine ex_callV (a := 0) (rest := []) dX3_readSum_2 rfl qp_2_75 rfl rfl rfl rfl rfl (Nat.le_of_ble_eq_true rfl) (hO1) (by omega) ?_
      show Ex (qm_layT ++ ext) _ mX3_readSum 5 [some (.ref 0), some (.int (nI o)), none, none] [] σ1 _ _
      refine ex_iconst (x := 0) dX3_readSum_5 rfl rfl ?_
      refine ex_istore_n (ls' := [some (.ref 0), some (.int (nI o)), some (.int 0), none]) dX3_readSum_6 rfl (Nat.le_of_ble_eq_true rfl) rfl rfl ?_
      exact hE
    | inr q =>
      rw [e] at hP1
      obtain ⟨g1, g2, g3⟩ := GP_le ht hg e (n := 0) (by omega)
      obtain ⟨σ2, hE, hP2, hs2⟩ := lSumR hk hp hg hD 160 0 none q.1 q.2 σ1 (by omega) hP1 (by omega) g2
      refine ⟨σ2, ?_, hP2, hs1.tr hs2⟩
      refine Ok.of (ls := [some (.ref 0), some (.int (nI o)), none, none]) (Nat.le_of_ble_eq_true rfl) rfl ?_
      refine ex_aload_n dX3_readSum_0 rfl rfl ?_
      refine ex_iload_n dX3_readSum_1 rfl rfl ?_
      refine ex_callV (a := 0) (rest := []) dX3_readSum_2 rfl qp_2_75 rfl rfl rfl rfl rfl (Nat.le_of_ble_eq_true rfl) (hO1) (by omega) ?_
      show Ex (qm_layT ++ ext) _ mX3_readSum 5 [some (.ref 0), some (.int (nI o)), none, none] [] σ1 _ _
      refine ex_iconst (x := 0) dX3_readSum_5 rfl rfl ?_
      refine ex_istore_n (ls' := [some (.ref 0), some (.int (nI o)), some (.int 0), none]) dX3_readSum_6 rfl (Nat.le_of_ble_eq_true rfl) rfl rfl ?_
      exact hE
  · obtain ⟨σ1, hO1, hF1, hs1⟩ := hp.2 e σ h
    have hE := lSumF hk (ext := ext) (D := D) (o := o) 0 none e σ1 (by omega) hF1
    refine ⟨σ1, ?_, hF1, hs1⟩
    refine Ok.of (ls := [some (.ref 0), some (.int (nI o)), none, none]) (Nat.le_of_ble_eq_true rfl) rfl ?_
    refine ex_aload_n dX3_readSum_0 rfl rfl ?_
    refine ex_iload_n dX3_readSum_1 rfl rfl ?_
    refine ex_callV (a := 0) (rest := []) dX3_readSum_2 rfl qp_2_75 rfl rfl rfl rfl rfl (Nat.le_of_ble_eq_true rfl) (hO1) (by omega) ?_
    show Ex (qm_layT ++ ext) _ mX3_readSum 5 [some (.ref 0), some (.int (nI o)), none, none] [] σ1 _ _
    refine ex_iconst (x := 0) dX3_readSum_5 rfl rfl ?_
    refine ex_istore_n (ls' := [some (.ref 0), some (.int (nI o)), some (.int 0), none]) dX3_readSum_6 rfl (Nat.le_of_ble_eq_true rfl) rfl rfl ?_
    exact hE

set_option maxRecDepth 8000 in
set_option maxHeartbeats 2000000 in
theorem lAndF {t : gt_T} (hk : gt_ok t) {ext : List qm_LE} {D o : Nat} : ∀ (k : Nat) (e : Nat) (σ : qm_St), k ≤ 160 → FC t σ e → Ex (qm_layT ++ ext) (D + 1) mX3_readAnd 7 [some (.ref 0), some (.int (nI o)), some (.int (nI k))] [] σ none σ := by
  intro k e σ hk2 h
  by_cases ck : k < 160
  · refine ex_iload_n dX3_readAnd_7 rfl rfl ?_
    refine ex_sipush (x := 160) dX3_readAnd_8 rfl rfl ?_
    refine ex_icmp_ge (q := 45) (q2 := 14) dX3_readAnd_11 rfl rfl (fun hh => absurd hh (nI_ge (a := k) (b := 160) (by omega) (by omega))) (fun _ => ?_)
    refine ex_aload_n dX3_readAnd_14 rfl rfl ?_
    refine ex_getI (s := 4) (x := 3) dX3_readAnd_15 rfl qp_2_50 rfl rfl (h.1) ?_
    refine ex_bipush (x := 8) dX3_readAnd_18 rfl rfl ?_
    refine ex_icmp_ne (q := 45) (q2 := 23) dX3_readAnd_20 rfl rfl (fun _ => ?_) (fun hh => absurd (by decide) hh)
    exact ex_vret dX3_readAnd_45 rfl rfl rfl
  · refine ex_iload_n dX3_readAnd_7 rfl rfl ?_
    refine ex_sipush (x := 160) dX3_readAnd_8 rfl rfl ?_
    refine ex_icmp_ge (q := 45) (q2 := 14) dX3_readAnd_11 rfl rfl (fun _ => ?_) (fun hh => absurd (nI_le (a := 160) (b := k) (by omega) (by omega)) hh)
    exact ex_vret dX3_readAnd_45 rfl rfl rfl

set_option maxRecDepth 8000 in
set_option maxHeartbeats 2000000 in
theorem lAndR {t : gt_T} (hk : gt_ok t) {ext : List qm_LE} {D o b : Nat} {p : tF} (hp : OwC t ext D mX3_readNot o p) (hg : GP t b p) (hD : 7 ≤ D) : ∀ (f k : Nat) (j : Nat) (c : List Nat) (σ : qm_St), k + f = 160 → RC t σ j c → c.length ≤ j → j ≤ 160 → ∃ σ', Ex (qm_layT ++ ext) (D + 1) mX3_readAnd 7 [some (.ref 0), some (.int (nI o)), some (.int (nI k))] [] σ none σ' ∧ PPc_ t σ' (gLp t p oA f j c) ∧ sm σ σ' 1 7 0 1 := by
  have ht := hk.1
  intro f
  induction f with
  | zero =>
    intro k j c σ hkf h hc hj
    refine ⟨σ, ?_, h, sm.rf _ _ _ _ _⟩
    refine ex_iload_n dX3_readAnd_7 rfl rfl ?_
    refine ex_sipush (x := 160) dX3_readAnd_8 rfl rfl ?_
    refine ex_icmp_ge (q := 45) (q2 := 14) dX3_readAnd_11 rfl rfl (fun _ => ?_) (fun hh => absurd (nI_le (a := 160) (b := k) (by omega) (by omega)) hh)
    exact ex_vret dX3_readAnd_45 rfl rfl rfl
  | succ f ih =>
    intro k j c σ hkf h hc hj
    have htk := tk_lt hk j
    by_cases c1 : tk t j = 8
    · skip
      have eop : oA (tk t j) = true := by rw [c1]; rfl
      rw [show gLp t p oA (f + 1) j c = rb (p (j + 1) c) (fun k d => gLp t p oA f k (d ++ [20000 + tk t j])) by show (if oA (tk t j) = true then _ else _) = _; rw [if_pos eop]]
      have hj160 := (tk_n0 (t := t) (i := j) (by omega)).2
      obtain ⟨σ1, hO1, hR1, hs1⟩ := nextR (ext := ext) hk h (by omega)
      obtain ⟨σ2, hO2, hP2, hs2⟩ := hp.1 (j + 1) c σ1 hR1 (by omega) (by omega)
      cases e : p (j + 1) c with
      | inl e1 =>
        rw [e] at hP2
        obtain ⟨σ3, hO3, hF3, hs3⟩ := addF (ext := ext) hP2 (20000 + tk t j)
        rw [c1] at hO3
        have hE := lAndF hk (ext := ext) (D := D) (o := o) (k + 1) e1 σ3 (by omega) hF3
        refine ⟨σ3, ?_, hF3, (hs1.wid (by omega) (by omega)).tr (hs2.tr hs3)⟩
        refine ex_iload_n dX3_readAnd_7 rfl rfl ?_
        refine ex_sipush (x := 160) dX3_readAnd_8 rfl rfl ?_
        refine ex_icmp_ge (q := 45) (q2 := 14) dX3_readAnd_11 rfl rfl (fun hh => absurd hh (nI_ge (a := k) (b := 160) (by omega) (by omega))) (fun _ => ?_)
        refine ex_aload_n dX3_readAnd_14 rfl rfl ?_
        refine ex_getI (s := 4) (x := nI (tk t j)) dX3_readAnd_15 rfl qp_2_50 rfl rfl (h.2.1.2.1) ?_
        refine ex_bipush (x := 8) dX3_readAnd_18 rfl rfl ?_
        refine ex_icmp_ne (q := 45) (q2 := 23) dX3_readAnd_20 rfl rfl (fun hh => absurd hh (fun zz => zz (congrArg nI (show (tk t j) = 8 by omega)))) (fun _ => ?_)
        refine ex_aload_n dX3_readAnd_23 rfl rfl ?_
        refine ex_callV (a := 0) (rest := []) dX3_readAnd_24 rfl qp_2_40 rfl rfl rfl rfl rfl (Nat.le_of_ble_eq_true rfl) (hO1) (by omega) ?_
        show Ex (qm_layT ++ ext) _ mX3_readAnd 27 [some (.ref 0), some (.int (nI o)), some (.int (nI k))] [] σ1 _ _
        refine ex_aload_n dX3_readAnd_27 rfl rfl ?_
        refine ex_iload_n dX3_readAnd_28 rfl rfl ?_
        refine ex_callV (a := 0) (rest := []) dX3_readAnd_29 rfl qp_2_65 rfl rfl rfl rfl rfl (Nat.le_of_ble_eq_true rfl) (hO2) (by omega) ?_
        show Ex (qm_layT ++ ext) _ mX3_readAnd 32 [some (.ref 0), some (.int (nI o)), some (.int (nI k))] [] σ2 _ _
        refine ex_aload_n dX3_readAnd_32 rfl rfl ?_
        refine ex_sipush (x := 20008) dX3_readAnd_33 rfl rfl ?_
        refine ex_callV (a := 0) (rest := []) dX3_readAnd_36 rfl qp_2_62 rfl rfl rfl rfl rfl (Nat.le_of_ble_eq_true rfl) (hO3) (by omega) ?_
        show Ex (qm_layT ++ ext) _ mX3_readAnd 39 [some (.ref 0), some (.int (nI o)), some (.int (nI k))] [] σ3 _ _
        refine ex_iinc (y := nI (k + 1)) (ls' := [some (.ref 0), some (.int (nI o)), some (.int (nI (k + 1)))]) dX3_readAnd_39 rfl rfl rfl (nI_add k 1) rfl ?_
        refine ex_goto (q := 7) dX3_readAnd_42 rfl ?_
        exact hE
      | inr q =>
        rw [e] at hP2
        obtain ⟨g1, g2, g3⟩ := GP_le ht hg e (n := 1) (by omega)
        obtain ⟨σ3, hO3, hR3, hs3⟩ := addR (ext := ext) hP2 (by omega) (20000 + tk t j)
        obtain ⟨σ4, hE, hP4, hs4⟩ := ih (k + 1) q.1 (q.2 ++ [20000 + tk t j]) σ3 (by omega) hR3 (by rw [List.length_append]; show q.2.length + 1 ≤ q.1; omega) g2
        rw [c1] at hO3
        refine ⟨σ4, ?_, hP4, (hs1.wid (by omega) (by omega)).tr (hs2.tr (hs3.tr hs4))⟩
        refine ex_iload_n dX3_readAnd_7 rfl rfl ?_
        refine ex_sipush (x := 160) dX3_readAnd_8 rfl rfl ?_
        refine ex_icmp_ge (q := 45) (q2 := 14) dX3_readAnd_11 rfl rfl (fun hh => absurd hh (nI_ge (a := k) (b := 160) (by omega) (by omega))) (fun _ => ?_)
        refine ex_aload_n dX3_readAnd_14 rfl rfl ?_
        refine ex_getI (s := 4) (x := nI (tk t j)) dX3_readAnd_15 rfl qp_2_50 rfl rfl (h.2.1.2.1) ?_
        refine ex_bipush (x := 8) dX3_readAnd_18 rfl rfl ?_
        refine ex_icmp_ne (q := 45) (q2 := 23) dX3_readAnd_20 rfl rfl (fun hh => absurd hh (fun zz => zz (congrArg nI (show (tk t j) = 8 by omega)))) (fun _ => ?_)
        refine ex_aload_n dX3_readAnd_23 rfl rfl ?_
        refine ex_callV (a := 0) (rest := []) dX3_readAnd_24 rfl qp_2_40 rfl rfl rfl rfl rfl (Nat.le_of_ble_eq_true rfl) (hO1) (by omega) ?_
        show Ex (qm_layT ++ ext) _ mX3_readAnd 27 [some (.ref 0), some (.int (nI o)), some (.int (nI k))] [] σ1 _ _
        refine ex_aload_n dX3_readAnd_27 rfl rfl ?_
        refine ex_iload_n dX3_readAnd_28 rfl rfl ?_
        refine ex_callV (a := 0) (rest := []) dX3_readAnd_29 rfl qp_2_65 rfl rfl rfl rfl rfl (Nat.le_of_ble_eq_true rfl) (hO2) (by omega) ?_
        show Ex (qm_layT ++ ext) _ mX3_readAnd 32 [some (.ref 0), some (.int (nI o)), some (.int (nI k))] [] σ2 _ _
        refine ex_aload_n dX3_readAnd_32 rfl rfl ?_
        refine ex_sipush (x := 20008) dX3_readAnd_33 rfl rfl ?_
        refine ex_callV (a := 0) (rest := []) dX3_readAnd_36 rfl qp_2_62 rfl rfl rfl rfl rfl (Nat.le_of_ble_eq_true rfl) (hO3) (by omega) ?_
        show Ex (qm_layT ++ ext) _ mX3_readAnd 39 [some (.ref 0), some (.int (nI o)), some (.int (nI k))] [] σ3 _ _
        refine ex_iinc (y := nI (k + 1)) (ls' := [some (.ref 0), some (.int (nI o)), some (.int (nI (k + 1)))]) dX3_readAnd_39 rfl rfl rfl (nI_add k 1) rfl ?_
        refine ex_goto (q := 7) dX3_readAnd_42 rfl ?_
        exact hE
    · rw [show gLp t p oA (f + 1) j c = .inr (j, c) from gLp_no t (decide_eq_false c1) _ _]
      refine ⟨σ, ?_, h, sm.rf _ _ _ _ _⟩
      refine ex_iload_n dX3_readAnd_7 rfl rfl ?_
      refine ex_sipush (x := 160) dX3_readAnd_8 rfl rfl ?_
      refine ex_icmp_ge (q := 45) (q2 := 14) dX3_readAnd_11 rfl rfl (fun hh => absurd hh (nI_ge (a := k) (b := 160) (by omega) (by omega))) (fun _ => ?_)
      refine ex_aload_n dX3_readAnd_14 rfl rfl ?_
      refine ex_getI (s := 4) (x := nI (tk t j)) dX3_readAnd_15 rfl qp_2_50 rfl rfl (h.2.1.2.1) ?_
      refine ex_bipush (x := 8) dX3_readAnd_18 rfl rfl ?_
      refine ex_icmp_ne (q := 45) (q2 := 23) dX3_readAnd_20 rfl rfl (fun _ => ?_) (fun hh => absurd (fun zz => c1 ((nI_eq (by omega) (by decide)).mp zz)) hh)
      exact ex_vret dX3_readAnd_45 rfl rfl rfl

set_option maxRecDepth 8000 in
set_option maxHeartbeats 2000000 in
theorem hAnd {t : gt_T} (hk : gt_ok t) {ext : List qm_LE} {D o b : Nat} {p : tF} (hp : OwC t ext D mX3_readNot o p) (hg : GP t b p) (hD : 7 ≤ D) : OwC t ext (D + 1) mX3_readAnd o (fun i cs => rb (p i cs) (gLp t p oA 160)) := by
  have ht := hk.1
  refine ⟨fun i cs σ h hc hi => ?_, fun e σ h => ?_⟩
  · show ∃ σ', Ok (qm_layT ++ ext) (D + 1) mX3_readAnd _ σ none σ' ∧ PPc_ t σ' (rb (p i cs) (gLp t p oA 160)) ∧ sm σ σ' 1 7 0 1
    obtain ⟨σ1, hO1, hP1, hs1⟩ := hp.1 i cs σ h hc hi
    cases e : p i cs with
    | inl e1 =>
      rw [e] at hP1
      have hE := lAndF hk (ext := ext) (D := D) (o := o) 0 e1 σ1 (by omega) hP1
      refine ⟨σ1, ?_, hP1, hs1⟩
      refine Ok.of (ls := [some (.ref 0), some (.int (nI o)), none]) (Nat.le_of_ble_eq_true rfl) rfl ?_
      refine ex_aload_n dX3_readAnd_0 rfl rfl ?_
      refine ex_iload_n dX3_readAnd_1 rfl rfl ?_
      refine ex_callV (a := 0) (rest := []) dX3_readAnd_2 rfl qp_2_65 rfl rfl rfl rfl rfl (Nat.le_of_ble_eq_true rfl) (hO1) (by omega) ?_
      show Ex (qm_layT ++ ext) _ mX3_readAnd 5 [some (.ref 0), some (.int (nI o)), none] [] σ1 _ _
      refine ex_iconst (x := 0) dX3_readAnd_5 rfl rfl ?_
      refine ex_istore_n (ls' := [some (.ref 0), some (.int (nI o)), some (.int 0)]) dX3_readAnd_6 rfl (Nat.le_of_ble_eq_true rfl) rfl rfl ?_
      exact hE
    | inr q =>
      rw [e] at hP1
      obtain ⟨g1, g2, g3⟩ := GP_le ht hg e (n := 0) (by omega)
      obtain ⟨σ2, hE, hP2, hs2⟩ := lAndR hk hp hg hD 160 0 q.1 q.2 σ1 (by omega) hP1 (by omega) g2
      refine ⟨σ2, ?_, hP2, hs1.tr hs2⟩
      refine Ok.of (ls := [some (.ref 0), some (.int (nI o)), none]) (Nat.le_of_ble_eq_true rfl) rfl ?_
      refine ex_aload_n dX3_readAnd_0 rfl rfl ?_
      refine ex_iload_n dX3_readAnd_1 rfl rfl ?_
      refine ex_callV (a := 0) (rest := []) dX3_readAnd_2 rfl qp_2_65 rfl rfl rfl rfl rfl (Nat.le_of_ble_eq_true rfl) (hO1) (by omega) ?_
      show Ex (qm_layT ++ ext) _ mX3_readAnd 5 [some (.ref 0), some (.int (nI o)), none] [] σ1 _ _
      refine ex_iconst (x := 0) dX3_readAnd_5 rfl rfl ?_
      refine ex_istore_n (ls' := [some (.ref 0), some (.int (nI o)), some (.int 0)]) dX3_readAnd_6 rfl (Nat.le_of_ble_eq_true rfl) rfl rfl ?_
      exact hE
  · obtain ⟨σ1, hO1, hF1, hs1⟩ := hp.2 e σ h
    have hE := lAndF hk (ext := ext) (D := D) (o := o) 0 e σ1 (by omega) hF1
    refine ⟨σ1, ?_, hF1, hs1⟩
    refine Ok.of (ls := [some (.ref 0), some (.int (nI o)), none]) (Nat.le_of_ble_eq_true rfl) rfl ?_
    refine ex_aload_n dX3_readAnd_0 rfl rfl ?_
    refine ex_iload_n dX3_readAnd_1 rfl rfl ?_
    refine ex_callV (a := 0) (rest := []) dX3_readAnd_2 rfl qp_2_65 rfl rfl rfl rfl rfl (Nat.le_of_ble_eq_true rfl) (hO1) (by omega) ?_
    show Ex (qm_layT ++ ext) _ mX3_readAnd 5 [some (.ref 0), some (.int (nI o)), none] [] σ1 _ _
    refine ex_iconst (x := 0) dX3_readAnd_5 rfl rfl ?_
    refine ex_istore_n (ls' := [some (.ref 0), some (.int (nI o)), some (.int 0)]) dX3_readAnd_6 rfl (Nat.le_of_ble_eq_true rfl) rfl rfl ?_
    exact hE

set_option maxRecDepth 8000 in
set_option maxHeartbeats 2000000 in
theorem lOrF {t : gt_T} (hk : gt_ok t) {ext : List qm_LE} {D o : Nat} : ∀ (k : Nat) (e : Nat) (σ : qm_St), k ≤ 160 → FC t σ e → Ex (qm_layT ++ ext) (D + 1) mX3_readOr 7 [some (.ref 0), some (.int (nI o)), some (.int (nI k))] [] σ none σ := by
  intro k e σ hk2 h
  by_cases ck : k < 160
  · refine ex_iload_n dX3_readOr_7 rfl rfl ?_
    refine ex_sipush (x := 160) dX3_readOr_8 rfl rfl ?_
    refine ex_icmp_ge (q := 45) (q2 := 14) dX3_readOr_11 rfl rfl (fun hh => absurd hh (nI_ge (a := k) (b := 160) (by omega) (by omega))) (fun _ => ?_)
    refine ex_aload_n dX3_readOr_14 rfl rfl ?_
    refine ex_getI (s := 4) (x := 3) dX3_readOr_15 rfl qp_2_50 rfl rfl (h.1) ?_
    refine ex_bipush (x := 7) dX3_readOr_18 rfl rfl ?_
    refine ex_icmp_ne (q := 45) (q2 := 23) dX3_readOr_20 rfl rfl (fun _ => ?_) (fun hh => absurd (by decide) hh)
    exact ex_vret dX3_readOr_45 rfl rfl rfl
  · refine ex_iload_n dX3_readOr_7 rfl rfl ?_
    refine ex_sipush (x := 160) dX3_readOr_8 rfl rfl ?_
    refine ex_icmp_ge (q := 45) (q2 := 14) dX3_readOr_11 rfl rfl (fun _ => ?_) (fun hh => absurd (nI_le (a := 160) (b := k) (by omega) (by omega)) hh)
    exact ex_vret dX3_readOr_45 rfl rfl rfl

set_option maxRecDepth 8000 in
set_option maxHeartbeats 2000000 in
theorem lOrR {t : gt_T} (hk : gt_ok t) {ext : List qm_LE} {D o b : Nat} {p : tF} (hp : OwC t ext D mX3_readAnd o p) (hg : GP t b p) (hD : 7 ≤ D) : ∀ (f k : Nat) (j : Nat) (c : List Nat) (σ : qm_St), k + f = 160 → RC t σ j c → c.length ≤ j → j ≤ 160 → ∃ σ', Ex (qm_layT ++ ext) (D + 1) mX3_readOr 7 [some (.ref 0), some (.int (nI o)), some (.int (nI k))] [] σ none σ' ∧ PPc_ t σ' (gLp t p oO f j c) ∧ sm σ σ' 1 7 0 1 := by
  have ht := hk.1
  intro f
  induction f with
  | zero =>
    intro k j c σ hkf h hc hj
    refine ⟨σ, ?_, h, sm.rf _ _ _ _ _⟩
    refine ex_iload_n dX3_readOr_7 rfl rfl ?_
    refine ex_sipush (x := 160) dX3_readOr_8 rfl rfl ?_
    refine ex_icmp_ge (q := 45) (q2 := 14) dX3_readOr_11 rfl rfl (fun _ => ?_) (fun hh => absurd (nI_le (a := 160) (b := k) (by omega) (by omega)) hh)
    exact ex_vret dX3_readOr_45 rfl rfl rfl
  | succ f ih =>
    intro k j c σ hkf h hc hj
    have htk := tk_lt hk j
    by_cases c1 : tk t j = 7
    · skip
      have eop : oO (tk t j) = true := by rw [c1]; rfl
      rw [show gLp t p oO (f + 1) j c = rb (p (j + 1) c) (fun k d => gLp t p oO f k (d ++ [20000 + tk t j])) by show (if oO (tk t j) = true then _ else _) = _; rw [if_pos eop]]
      have hj160 := (tk_n0 (t := t) (i := j) (by omega)).2
      obtain ⟨σ1, hO1, hR1, hs1⟩ := nextR (ext := ext) hk h (by omega)
      obtain ⟨σ2, hO2, hP2, hs2⟩ := hp.1 (j + 1) c σ1 hR1 (by omega) (by omega)
      cases e : p (j + 1) c with
      | inl e1 =>
        rw [e] at hP2
        obtain ⟨σ3, hO3, hF3, hs3⟩ := addF (ext := ext) hP2 (20000 + tk t j)
        rw [c1] at hO3
        have hE := lOrF hk (ext := ext) (D := D) (o := o) (k + 1) e1 σ3 (by omega) hF3
        refine ⟨σ3, ?_, hF3, (hs1.wid (by omega) (by omega)).tr (hs2.tr hs3)⟩
        refine ex_iload_n dX3_readOr_7 rfl rfl ?_
        refine ex_sipush (x := 160) dX3_readOr_8 rfl rfl ?_
        refine ex_icmp_ge (q := 45) (q2 := 14) dX3_readOr_11 rfl rfl (fun hh => absurd hh (nI_ge (a := k) (b := 160) (by omega) (by omega))) (fun _ => ?_)
        refine ex_aload_n dX3_readOr_14 rfl rfl ?_
        refine ex_getI (s := 4) (x := nI (tk t j)) dX3_readOr_15 rfl qp_2_50 rfl rfl (h.2.1.2.1) ?_
        refine ex_bipush (x := 7) dX3_readOr_18 rfl rfl ?_
        refine ex_icmp_ne (q := 45) (q2 := 23) dX3_readOr_20 rfl rfl (fun hh => absurd hh (fun zz => zz (congrArg nI (show (tk t j) = 7 by omega)))) (fun _ => ?_)
        refine ex_aload_n dX3_readOr_23 rfl rfl ?_
        refine ex_callV (a := 0) (rest := []) dX3_readOr_24 rfl qp_2_40 rfl rfl rfl rfl rfl (Nat.le_of_ble_eq_true rfl) (hO1) (by omega) ?_
        show Ex (qm_layT ++ ext) _ mX3_readOr 27 [some (.ref 0), some (.int (nI o)), some (.int (nI k))] [] σ1 _ _
        refine ex_aload_n dX3_readOr_27 rfl rfl ?_
        refine ex_iload_n dX3_readOr_28 rfl rfl ?_
        refine ex_callV (a := 0) (rest := []) dX3_readOr_29 rfl qp_2_59 rfl rfl rfl rfl rfl (Nat.le_of_ble_eq_true rfl) (hO2) (by omega) ?_
        show Ex (qm_layT ++ ext) _ mX3_readOr 32 [some (.ref 0), some (.int (nI o)), some (.int (nI k))] [] σ2 _ _
        refine ex_aload_n dX3_readOr_32 rfl rfl ?_
        refine ex_sipush (x := 20007) dX3_readOr_33 rfl rfl ?_
        refine ex_callV (a := 0) (rest := []) dX3_readOr_36 rfl qp_2_62 rfl rfl rfl rfl rfl (Nat.le_of_ble_eq_true rfl) (hO3) (by omega) ?_
        show Ex (qm_layT ++ ext) _ mX3_readOr 39 [some (.ref 0), some (.int (nI o)), some (.int (nI k))] [] σ3 _ _
        refine ex_iinc (y := nI (k + 1)) (ls' := [some (.ref 0), some (.int (nI o)), some (.int (nI (k + 1)))]) dX3_readOr_39 rfl rfl rfl (nI_add k 1) rfl ?_
        refine ex_goto (q := 7) dX3_readOr_42 rfl ?_
        exact hE
      | inr q =>
        rw [e] at hP2
        obtain ⟨g1, g2, g3⟩ := GP_le ht hg e (n := 1) (by omega)
        obtain ⟨σ3, hO3, hR3, hs3⟩ := addR (ext := ext) hP2 (by omega) (20000 + tk t j)
        obtain ⟨σ4, hE, hP4, hs4⟩ := ih (k + 1) q.1 (q.2 ++ [20000 + tk t j]) σ3 (by omega) hR3 (by rw [List.length_append]; show q.2.length + 1 ≤ q.1; omega) g2
        rw [c1] at hO3
        refine ⟨σ4, ?_, hP4, (hs1.wid (by omega) (by omega)).tr (hs2.tr (hs3.tr hs4))⟩
        refine ex_iload_n dX3_readOr_7 rfl rfl ?_
        refine ex_sipush (x := 160) dX3_readOr_8 rfl rfl ?_
        refine ex_icmp_ge (q := 45) (q2 := 14) dX3_readOr_11 rfl rfl (fun hh => absurd hh (nI_ge (a := k) (b := 160) (by omega) (by omega))) (fun _ => ?_)
        refine ex_aload_n dX3_readOr_14 rfl rfl ?_
        refine ex_getI (s := 4) (x := nI (tk t j)) dX3_readOr_15 rfl qp_2_50 rfl rfl (h.2.1.2.1) ?_
        refine ex_bipush (x := 7) dX3_readOr_18 rfl rfl ?_
        refine ex_icmp_ne (q := 45) (q2 := 23) dX3_readOr_20 rfl rfl (fun hh => absurd hh (fun zz => zz (congrArg nI (show (tk t j) = 7 by omega)))) (fun _ => ?_)
        refine ex_aload_n dX3_readOr_23 rfl rfl ?_
        refine ex_callV (a := 0) (rest := []) dX3_readOr_24 rfl qp_2_40 rfl rfl rfl rfl rfl (Nat.le_of_ble_eq_true rfl) (hO1) (by omega) ?_
        show Ex (qm_layT ++ ext) _ mX3_readOr 27 [some (.ref 0), some (.int (nI o)), some (.int (nI k))] [] σ1 _ _
        refine ex_aload_n dX3_readOr_27 rfl rfl ?_
        refine ex_iload_n dX3_readOr_28 rfl rfl ?_
        refine ex_callV (a := 0) (rest := []) dX3_readOr_29 rfl qp_2_59 rfl rfl rfl rfl rfl (Nat.le_of_ble_eq_true rfl) (hO2) (by omega) ?_
        show Ex (qm_layT ++ ext) _ mX3_readOr 32 [some (.ref 0), some (.int (nI o)), some (.int (nI k))] [] σ2 _ _
        refine ex_aload_n dX3_readOr_32 rfl rfl ?_
        refine ex_sipush (x := 20007) dX3_readOr_33 rfl rfl ?_
        refine ex_callV (a := 0) (rest := []) dX3_readOr_36 rfl qp_2_62 rfl rfl rfl rfl rfl (Nat.le_of_ble_eq_true rfl) (hO3) (by omega) ?_
        show Ex (qm_layT ++ ext) _ mX3_readOr 39 [some (.ref 0), some (.int (nI o)), some (.int (nI k))] [] σ3 _ _
        refine ex_iinc (y := nI (k + 1)) (ls' := [some (.ref 0), some (.int (nI o)), some (.int (nI (k + 1)))]) dX3_readOr_39 rfl rfl rfl (nI_add k 1) rfl ?_
        refine ex_goto (q := 7) dX3_readOr_42 rfl ?_
        exact hE
    · rw [show gLp t p oO (f + 1) j c = .inr (j, c) from gLp_no t (decide_eq_false c1) _ _]
      refine ⟨σ, ?_, h, sm.rf _ _ _ _ _⟩
      refine ex_iload_n dX3_readOr_7 rfl rfl ?_
      refine ex_sipush (x := 160) dX3_readOr_8 rfl rfl ?_
      refine ex_icmp_ge (q := 45) (q2 := 14) dX3_readOr_11 rfl rfl (fun hh => absurd hh (nI_ge (a := k) (b := 160) (by omega) (by omega))) (fun _ => ?_)
      refine ex_aload_n dX3_readOr_14 rfl rfl ?_
      refine ex_getI (s := 4) (x := nI (tk t j)) dX3_readOr_15 rfl qp_2_50 rfl rfl (h.2.1.2.1) ?_
      refine ex_bipush (x := 7) dX3_readOr_18 rfl rfl ?_
      refine ex_icmp_ne (q := 45) (q2 := 23) dX3_readOr_20 rfl rfl (fun _ => ?_) (fun hh => absurd (fun zz => c1 ((nI_eq (by omega) (by decide)).mp zz)) hh)
      exact ex_vret dX3_readOr_45 rfl rfl rfl

set_option maxRecDepth 8000 in
set_option maxHeartbeats 2000000 in
theorem hOr {t : gt_T} (hk : gt_ok t) {ext : List qm_LE} {D o b : Nat} {p : tF} (hp : OwC t ext D mX3_readAnd o p) (hg : GP t b p) (hD : 7 ≤ D) : OwC t ext (D + 1) mX3_readOr o (fun i cs => rb (p i cs) (gLp t p oO 160)) := by
  have ht := hk.1
  refine ⟨fun i cs σ h hc hi => ?_, fun e σ h => ?_⟩
  · show ∃ σ', Ok (qm_layT ++ ext) (D + 1) mX3_readOr _ σ none σ' ∧ PPc_ t σ' (rb (p i cs) (gLp t p oO 160)) ∧ sm σ σ' 1 7 0 1
    obtain ⟨σ1, hO1, hP1, hs1⟩ := hp.1 i cs σ h hc hi
    cases e : p i cs with
    | inl e1 =>
      rw [e] at hP1
      have hE := lOrF hk (ext := ext) (D := D) (o := o) 0 e1 σ1 (by omega) hP1
      refine ⟨σ1, ?_, hP1, hs1⟩
      refine Ok.of (ls := [some (.ref 0), some (.int (nI o)), none]) (Nat.le_of_ble_eq_true rfl) rfl ?_
      refine ex_aload_n dX3_readOr_0 rfl rfl ?_
      refine ex_iload_n dX3_readOr_1 rfl rfl ?_
      refine ex_callV (a := 0) (rest := []) dX3_readOr_2 rfl qp_2_59 rfl rfl rfl rfl rfl (Nat.le_of_ble_eq_true rfl) (hO1) (by omega) ?_
      show Ex (qm_layT ++ ext) _ mX3_readOr 5 [some (.ref 0), some (.int (nI o)), none] [] σ1 _ _
      refine ex_iconst (x := 0) dX3_readOr_5 rfl rfl ?_
      refine ex_istore_n (ls' := [some (.ref 0), some (.int (nI o)), some (.int 0)]) dX3_readOr_6 rfl (Nat.le_of_ble_eq_true rfl) rfl rfl ?_
      exact hE
    | inr q =>
      rw [e] at hP1
      obtain ⟨g1, g2, g3⟩ := GP_le ht hg e (n := 0) (by omega)
      obtain ⟨σ2, hE, hP2, hs2⟩ := lOrR hk hp hg hD 160 0 q.1 q.2 σ1 (by omega) hP1 (by omega) g2
      refine ⟨σ2, ?_, hP2, hs1.tr hs2⟩
      refine Ok.of (ls := [some (.ref 0), some (.int (nI o)), none]) (Nat.le_of_ble_eq_true rfl) rfl ?_
      refine ex_aload_n dX3_readOr_0 rfl rfl ?_
      refine ex_iload_n dX3_readOr_1 rfl rfl ?_
      refine ex_callV (a := 0) (rest := []) dX3_readOr_2 rfl qp_2_59 rfl rfl rfl rfl rfl (Nat.le_of_ble_eq_true rfl) (hO1) (by omega) ?_
      show Ex (qm_layT ++ ext) _ mX3_readOr 5 [some (.ref 0), some (.int (nI o)), none] [] σ1 _ _
      refine ex_iconst (x := 0) dX3_readOr_5 rfl rfl ?_
      refine ex_istore_n (ls' := [some (.ref 0), some (.int (nI o)), some (.int 0)]) dX3_readOr_6 rfl (Nat.le_of_ble_eq_true rfl) rfl rfl ?_
      exact hE
  · obtain ⟨σ1, hO1, hF1, hs1⟩ := hp.2 e σ h
    have hE := lOrF hk (ext := ext) (D := D) (o := o) 0 e σ1 (by omega) hF1
    refine ⟨σ1, ?_, hF1, hs1⟩
    refine Ok.of (ls := [some (.ref 0), some (.int (nI o)), none]) (Nat.le_of_ble_eq_true rfl) rfl ?_
    refine ex_aload_n dX3_readOr_0 rfl rfl ?_
    refine ex_iload_n dX3_readOr_1 rfl rfl ?_
    refine ex_callV (a := 0) (rest := []) dX3_readOr_2 rfl qp_2_59 rfl rfl rfl rfl rfl (Nat.le_of_ble_eq_true rfl) (hO1) (by omega) ?_
    show Ex (qm_layT ++ ext) _ mX3_readOr 5 [some (.ref 0), some (.int (nI o)), none] [] σ1 _ _
    refine ex_iconst (x := 0) dX3_readOr_5 rfl rfl ?_
    refine ex_istore_n (ls' := [some (.ref 0), some (.int (nI o)), some (.int 0)]) dX3_readOr_6 rfl (Nat.le_of_ble_eq_true rfl) rfl rfl ?_
    exact hE

set_option maxRecDepth 8000 in
set_option maxHeartbeats 2000000 in
theorem hOne0 {t : gt_T} (hk : gt_ok t) {ext : List qm_LE} : OwC t ext 8 mX3_readOne 5 (pOne t 0) := by
  have ht := hk.1
  obtain ⟨o, ho⟩ : ∃ o, o = 5 := ⟨5, rfl⟩
  rw [← ho]
  refine ⟨fun i cs σ h hc hi => ?_, fun e σ h => ?_⟩
  · show ∃ σ', Ok (qm_layT ++ ext) 8 mX3_readOne _ σ none σ' ∧ PPc_ t σ' (gOne t none i cs) ∧ sm σ σ' 1 7 0 1
    have htk := tk_lt hk i
    unfold gOne
    by_cases c1 : tk t i = 1
    · rw [if_pos c1]
      have hi160 := (tk_n0 (t := t) (i := i) (by omega)).2
      have hv := h.2.1.2.2.1 (by first | exact Or.inl c1 | exact Or.inr c2)
      obtain ⟨σ1, hO1, hR1, hs1⟩ := addR (ext := ext) h (by omega) (tvl t i)
      obtain ⟨σ2, hO2, hR2, hs2⟩ := nextR (ext := ext) hk hR1 (by omega)
      refine ⟨σ2, ?_, hR2, hs1.tr (hs2.wid (by omega) (by omega))⟩
      refine Ok.of (ls := [some (.ref 0), some (.int (nI o))]) (Nat.le_of_ble_eq_true rfl) rfl ?_
      refine ex_aload_n dX3_readOne_0 rfl rfl ?_
      refine ex_getI (s := 4) (x := nI (tk t i)) dX3_readOne_1 rfl qp_2_50 rfl rfl (h.2.1.2.1) ?_
      refine ex_iconst (x := 1) dX3_readOne_4 rfl rfl ?_
      refine ex_icmp_eq (q := 16) (q2 := 8) dX3_readOne_5 rfl rfl (fun _ => ?_) (fun hh => absurd (congrArg nI (show (tk t i) = 1 by omega)) hh)
      refine ex_aload_n dX3_readOne_16 rfl rfl ?_
      refine ex_aload_n dX3_readOne_17 rfl rfl ?_
      refine ex_getI (s := 4) (x := nI (tk t i)) dX3_readOne_18 rfl qp_2_50 rfl rfl (h.2.1.2.1) ?_
      refine ex_iconst (x := 2) dX3_readOne_21 rfl rfl ?_
      refine ex_icmp_ne (q := 36) (q2 := 25) dX3_readOne_22 rfl rfl (fun _ => ?_) (fun hh => absurd (fun zz => absurd ((nI_eq (a := (tk t i)) (b := 2) (by omega) (by omega)).mp zz) (by omega)) hh)
      refine ex_aload_n dX3_readOne_36 rfl rfl ?_
      refine ex_getI (s := 5) (x := nI (tvl t i)) dX3_readOne_37 rfl qp_2_81 rfl rfl (hv) ?_
      refine ex_callV (a := 0) (rest := []) dX3_readOne_40 rfl qp_2_62 rfl rfl rfl rfl rfl (Nat.le_of_ble_eq_true rfl) (hO1) (by omega) ?_
      show Ex (qm_layT ++ ext) _ mX3_readOne 43 [some (.ref 0), some (.int (nI o))] [] σ1 _ _
      refine ex_aload_n dX3_readOne_43 rfl rfl ?_
      refine ex_callV (a := 0) (rest := []) dX3_readOne_44 rfl qp_2_40 rfl rfl rfl rfl rfl (Nat.le_of_ble_eq_true rfl) (hO2) (by omega) ?_
      show Ex (qm_layT ++ ext) _ mX3_readOne 47 [some (.ref 0), some (.int (nI o))] [] σ2 _ _
      refine ex_goto (q := 129) dX3_readOne_47 rfl ?_
      exact ex_vret dX3_readOne_129 rfl rfl rfl
    · rw [if_neg c1]
      by_cases c2 : tk t i = 2
      · rw [if_pos c2]
        have hi160 := (tk_n0 (t := t) (i := i) (by omega)).2
        have hv := h.2.1.2.2.1 (by first | exact Or.inl c1 | exact Or.inr c2)
        obtain ⟨σ1, hO1, hR1, hs1⟩ := addR (ext := ext) h (by omega) (10000 + tvl t i)
        obtain ⟨σ2, hO2, hR2, hs2⟩ := nextR (ext := ext) hk hR1 (by omega)
        refine ⟨σ2, ?_, hR2, hs1.tr (hs2.wid (by omega) (by omega))⟩
        refine Ok.of (ls := [some (.ref 0), some (.int (nI o))]) (Nat.le_of_ble_eq_true rfl) rfl ?_
        refine ex_aload_n dX3_readOne_0 rfl rfl ?_
        refine ex_getI (s := 4) (x := nI (tk t i)) dX3_readOne_1 rfl qp_2_50 rfl rfl (h.2.1.2.1) ?_
        refine ex_iconst (x := 1) dX3_readOne_4 rfl rfl ?_
        refine ex_icmp_eq (q := 16) (q2 := 8) dX3_readOne_5 rfl rfl (fun hh => absurd hh (fun zz => absurd ((nI_eq (a := (tk t i)) (b := 1) (by omega) (by omega)).mp zz) (by omega))) (fun _ => ?_)
        refine ex_aload_n dX3_readOne_8 rfl rfl ?_
        refine ex_getI (s := 4) (x := nI (tk t i)) dX3_readOne_9 rfl qp_2_50 rfl rfl (h.2.1.2.1) ?_
        refine ex_iconst (x := 2) dX3_readOne_12 rfl rfl ?_
        refine ex_icmp_ne (q := 50) (q2 := 16) dX3_readOne_13 rfl rfl (fun hh => absurd hh (fun zz => zz (congrArg nI (show (tk t i) = 2 by omega)))) (fun _ => ?_)
        refine ex_aload_n dX3_readOne_16 rfl rfl ?_
        refine ex_aload_n dX3_readOne_17 rfl rfl ?_
        refine ex_getI (s := 4) (x := nI (tk t i)) dX3_readOne_18 rfl qp_2_50 rfl rfl (h.2.1.2.1) ?_
        refine ex_iconst (x := 2) dX3_readOne_21 rfl rfl ?_
        refine ex_icmp_ne (q := 36) (q2 := 25) dX3_readOne_22 rfl rfl (fun hh => absurd hh (fun zz => zz (congrArg nI (show (tk t i) = 2 by omega)))) (fun _ => ?_)
        refine ex_sipush (x := 10000) dX3_readOne_25 rfl rfl ?_
        refine ex_aload_n dX3_readOne_28 rfl rfl ?_
        refine ex_getI (s := 5) (x := nI (tvl t i)) dX3_readOne_29 rfl qp_2_81 rfl rfl (hv) ?_
        refine ex_iadd (z := nI (10000 + (tvl t i))) dX3_readOne_32 rfl (nI_add 10000 (tvl t i)) ?_
        refine ex_goto (q := 40) dX3_readOne_33 rfl ?_
        refine ex_callV (a := 0) (rest := []) dX3_readOne_40 rfl qp_2_62 rfl rfl rfl rfl rfl (Nat.le_of_ble_eq_true rfl) (hO1) (by omega) ?_
        show Ex (qm_layT ++ ext) _ mX3_readOne 43 [some (.ref 0), some (.int (nI o))] [] σ1 _ _
        refine ex_aload_n dX3_readOne_43 rfl rfl ?_
        refine ex_callV (a := 0) (rest := []) dX3_readOne_44 rfl qp_2_40 rfl rfl rfl rfl rfl (Nat.le_of_ble_eq_true rfl) (hO2) (by omega) ?_
        show Ex (qm_layT ++ ext) _ mX3_readOne 47 [some (.ref 0), some (.int (nI o))] [] σ2 _ _
        refine ex_goto (q := 129) dX3_readOne_47 rfl ?_
        exact ex_vret dX3_readOne_129 rfl rfl rfl
      · rw [if_neg c2]
        by_cases c45 : tk t i = 45
        · rw [if_pos c45]
          have hi160 := (tk_n0 (t := t) (i := i) (by omega)).2
          subst ho
          obtain ⟨σ1, hO1, hF1, hs1⟩ := mayOpenF (ext := ext) hk h (by omega)
          refine ⟨σ1, ?_, hF1, hs1⟩
          refine Ok.of (ls := [some (.ref 0), some (.int (nI 5))]) (Nat.le_of_ble_eq_true rfl) rfl ?_
          refine ex_aload_n dX3_readOne_0 rfl rfl ?_
          refine ex_getI (s := 4) (x := nI (tk t i)) dX3_readOne_1 rfl qp_2_50 rfl rfl (h.2.1.2.1) ?_
          refine ex_iconst (x := 1) dX3_readOne_4 rfl rfl ?_
          refine ex_icmp_eq (q := 16) (q2 := 8) dX3_readOne_5 rfl rfl (fun hh => absurd hh (fun zz => absurd ((nI_eq (a := (tk t i)) (b := 1) (by omega) (by omega)).mp zz) (by omega))) (fun _ => ?_)
          refine ex_aload_n dX3_readOne_8 rfl rfl ?_
          refine ex_getI (s := 4) (x := nI (tk t i)) dX3_readOne_9 rfl qp_2_50 rfl rfl (h.2.1.2.1) ?_
          refine ex_iconst (x := 2) dX3_readOne_12 rfl rfl ?_
          refine ex_icmp_ne (q := 50) (q2 := 16) dX3_readOne_13 rfl rfl (fun _ => ?_) (fun hh => absurd (fun zz => absurd ((nI_eq (a := (tk t i)) (b := 2) (by omega) (by omega)).mp zz) (by omega)) hh)
          refine ex_aload_n dX3_readOne_50 rfl rfl ?_
          refine ex_getI (s := 4) (x := nI (tk t i)) dX3_readOne_51 rfl qp_2_50 rfl rfl (h.2.1.2.1) ?_
          refine ex_bipush (x := 45) dX3_readOne_54 rfl rfl ?_
          refine ex_icmp_ne (q := 88) (q2 := 59) dX3_readOne_56 rfl rfl (fun hh => absurd hh (fun zz => zz (congrArg nI (show (tk t i) = 45 by omega)))) (fun _ => ?_)
          refine ex_aload_n dX3_readOne_59 rfl rfl ?_
          refine ex_iload_n dX3_readOne_60 rfl rfl ?_
          refine ex_callV (a := 0) (rest := []) dX3_readOne_61 rfl qp_2_68 rfl rfl rfl rfl rfl (Nat.le_of_ble_eq_true rfl) (hO1) (by omega) ?_
          show Ex (qm_layT ++ ext) _ mX3_readOne 64 [some (.ref 0), some (.int (nI 5))] [.int 0] σ1 _ _
          refine ex_if_eq (q := 129) (q2 := 67) dX3_readOne_64 rfl rfl (fun _ => ?_) (fun hh => absurd (by decide) hh)
          exact ex_vret dX3_readOne_129 rfl rfl rfl
        · rw [if_neg c45]
          by_cases c40 : tk t i = 40
          · rw [if_pos c40]
            have hi160 := (tk_n0 (t := t) (i := i) (by omega)).2
            subst ho
            obtain ⟨σ1, hO1, hF1, hs1⟩ := mayOpenF (ext := ext) hk h (by omega)
            refine ⟨σ1, ?_, hF1, hs1⟩
            refine Ok.of (ls := [some (.ref 0), some (.int (nI 5))]) (Nat.le_of_ble_eq_true rfl) rfl ?_
            refine ex_aload_n dX3_readOne_0 rfl rfl ?_
            refine ex_getI (s := 4) (x := nI (tk t i)) dX3_readOne_1 rfl qp_2_50 rfl rfl (h.2.1.2.1) ?_
            refine ex_iconst (x := 1) dX3_readOne_4 rfl rfl ?_
            refine ex_icmp_eq (q := 16) (q2 := 8) dX3_readOne_5 rfl rfl (fun hh => absurd hh (fun zz => absurd ((nI_eq (a := (tk t i)) (b := 1) (by omega) (by omega)).mp zz) (by omega))) (fun _ => ?_)
            refine ex_aload_n dX3_readOne_8 rfl rfl ?_
            refine ex_getI (s := 4) (x := nI (tk t i)) dX3_readOne_9 rfl qp_2_50 rfl rfl (h.2.1.2.1) ?_
            refine ex_iconst (x := 2) dX3_readOne_12 rfl rfl ?_
            refine ex_icmp_ne (q := 50) (q2 := 16) dX3_readOne_13 rfl rfl (fun _ => ?_) (fun hh => absurd (fun zz => absurd ((nI_eq (a := (tk t i)) (b := 2) (by omega) (by omega)).mp zz) (by omega)) hh)
            refine ex_aload_n dX3_readOne_50 rfl rfl ?_
            refine ex_getI (s := 4) (x := nI (tk t i)) dX3_readOne_51 rfl qp_2_50 rfl rfl (h.2.1.2.1) ?_
            refine ex_bipush (x := 45) dX3_readOne_54 rfl rfl ?_
            refine ex_icmp_ne (q := 88) (q2 := 59) dX3_readOne_56 rfl rfl (fun _ => ?_) (fun hh => absurd (fun zz => absurd ((nI_eq (a := (tk t i)) (b := 45) (by omega) (by omega)).mp zz) (by omega)) hh)
            refine ex_aload_n dX3_readOne_88 rfl rfl ?_
            refine ex_getI (s := 4) (x := nI (tk t i)) dX3_readOne_89 rfl qp_2_50 rfl rfl (h.2.1.2.1) ?_
            refine ex_bipush (x := 40) dX3_readOne_92 rfl rfl ?_
            refine ex_icmp_ne (q := 125) (q2 := 97) dX3_readOne_94 rfl rfl (fun hh => absurd hh (fun zz => zz (congrArg nI (show (tk t i) = 40 by omega)))) (fun _ => ?_)
            refine ex_aload_n dX3_readOne_97 rfl rfl ?_
            refine ex_iload_n dX3_readOne_98 rfl rfl ?_
            refine ex_callV (a := 0) (rest := []) dX3_readOne_99 rfl qp_2_68 rfl rfl rfl rfl rfl (Nat.le_of_ble_eq_true rfl) (hO1) (by omega) ?_
            show Ex (qm_layT ++ ext) _ mX3_readOne 102 [some (.ref 0), some (.int (nI 5))] [.int 0] σ1 _ _
            refine ex_if_eq (q := 129) (q2 := 105) dX3_readOne_102 rfl rfl (fun _ => ?_) (fun hh => absurd (by decide) hh)
            exact ex_vret dX3_readOne_129 rfl rfl rfl
          · rw [if_neg c40]
            obtain ⟨σ1, hO1, hF1, hs1⟩ := failR (ext := ext) hk h (by omega)
            refine ⟨σ1, ?_, hF1, hs1⟩
            refine Ok.of (ls := [some (.ref 0), some (.int (nI o))]) (Nat.le_of_ble_eq_true rfl) rfl ?_
            refine ex_aload_n dX3_readOne_0 rfl rfl ?_
            refine ex_getI (s := 4) (x := nI (tk t i)) dX3_readOne_1 rfl qp_2_50 rfl rfl (h.2.1.2.1) ?_
            refine ex_iconst (x := 1) dX3_readOne_4 rfl rfl ?_
            refine ex_icmp_eq (q := 16) (q2 := 8) dX3_readOne_5 rfl rfl (fun hh => absurd hh (fun zz => absurd ((nI_eq (a := (tk t i)) (b := 1) (by omega) (by omega)).mp zz) (by omega))) (fun _ => ?_)
            refine ex_aload_n dX3_readOne_8 rfl rfl ?_
            refine ex_getI (s := 4) (x := nI (tk t i)) dX3_readOne_9 rfl qp_2_50 rfl rfl (h.2.1.2.1) ?_
            refine ex_iconst (x := 2) dX3_readOne_12 rfl rfl ?_
            refine ex_icmp_ne (q := 50) (q2 := 16) dX3_readOne_13 rfl rfl (fun _ => ?_) (fun hh => absurd (fun zz => absurd ((nI_eq (a := (tk t i)) (b := 2) (by omega) (by omega)).mp zz) (by omega)) hh)
            refine ex_aload_n dX3_readOne_50 rfl rfl ?_
            refine ex_getI (s := 4) (x := nI (tk t i)) dX3_readOne_51 rfl qp_2_50 rfl rfl (h.2.1.2.1) ?_
            refine ex_bipush (x := 45) dX3_readOne_54 rfl rfl ?_
            refine ex_icmp_ne (q := 88) (q2 := 59) dX3_readOne_56 rfl rfl (fun _ => ?_) (fun hh => absurd (fun zz => absurd ((nI_eq (a := (tk t i)) (b := 45) (by omega) (by omega)).mp zz) (by omega)) hh)
            refine ex_aload_n dX3_readOne_88 rfl rfl ?_
            refine ex_getI (s := 4) (x := nI (tk t i)) dX3_readOne_89 rfl qp_2_50 rfl rfl (h.2.1.2.1) ?_
            refine ex_bipush (x := 40) dX3_readOne_92 rfl rfl ?_
            refine ex_icmp_ne (q := 125) (q2 := 97) dX3_readOne_94 rfl rfl (fun _ => ?_) (fun hh => absurd (fun zz => absurd ((nI_eq (a := (tk t i)) (b := 40) (by omega) (by omega)).mp zz) (by omega)) hh)
            refine ex_aload_n dX3_readOne_125 rfl rfl ?_
            refine ex_callV (a := 0) (rest := []) dX3_readOne_126 rfl qp_2_53 rfl rfl rfl rfl rfl (Nat.le_of_ble_eq_true rfl) (hO1) (by omega) ?_
            show Ex (qm_layT ++ ext) _ mX3_readOne 129 [some (.ref 0), some (.int (nI o))] [] σ1 _ _
            exact ex_vret dX3_readOne_129 rfl rfl rfl
  · obtain ⟨σ1, hO1, hF1, hs1⟩ := failF (ext := ext) hk h
    refine ⟨σ1, ?_, hF1, hs1⟩
    refine Ok.of (ls := [some (.ref 0), some (.int (nI o))]) (Nat.le_of_ble_eq_true rfl) rfl ?_
    refine ex_aload_n dX3_readOne_0 rfl rfl ?_
    refine ex_getI (s := 4) (x := 3) dX3_readOne_1 rfl qp_2_50 rfl rfl (h.1) ?_
    refine ex_iconst (x := 1) dX3_readOne_4 rfl rfl ?_
    refine ex_icmp_eq (q := 16) (q2 := 8) dX3_readOne_5 rfl rfl (fun hh => absurd hh (by decide)) (fun _ => ?_)
    refine ex_aload_n dX3_readOne_8 rfl rfl ?_
    refine ex_getI (s := 4) (x := 3) dX3_readOne_9 rfl qp_2_50 rfl rfl (h.1) ?_
    refine ex_iconst (x := 2) dX3_readOne_12 rfl rfl ?_
    refine ex_icmp_ne (q := 50) (q2 := 16) dX3_readOne_13 rfl rfl (fun _ => ?_) (fun hh => absurd (by decide) hh)
    refine ex_aload_n dX3_readOne_50 rfl rfl ?_
    refine ex_getI (s := 4) (x := 3) dX3_readOne_51 rfl qp_2_50 rfl rfl (h.1) ?_
    refine ex_bipush (x := 45) dX3_readOne_54 rfl rfl ?_
    refine ex_icmp_ne (q := 88) (q2 := 59) dX3_readOne_56 rfl rfl (fun _ => ?_) (fun hh => absurd (by decide) hh)
    refine ex_aload_n dX3_readOne_88 rfl rfl ?_
    refine ex_getI (s := 4) (x := 3) dX3_readOne_89 rfl qp_2_50 rfl rfl (h.1) ?_
    refine ex_bipush (x := 40) dX3_readOne_92 rfl rfl ?_
    refine ex_icmp_ne (q := 125) (q2 := 97) dX3_readOne_94 rfl rfl (fun _ => ?_) (fun hh => absurd (by decide) hh)
    refine ex_aload_n dX3_readOne_125 rfl rfl ?_
    refine ex_callV (a := 0) (rest := []) dX3_readOne_126 rfl qp_2_53 rfl rfl rfl rfl rfl (Nat.le_of_ble_eq_true rfl) (hO1) (by omega) ?_
    show Ex (qm_layT ++ ext) _ mX3_readOne 129 [some (.ref 0), some (.int (nI o))] [] σ1 _ _
    exact ex_vret dX3_readOne_129 rfl rfl rfl

set_option maxRecDepth 8000 in
set_option maxHeartbeats 2000000 in
theorem hOneS {t : gt_T} (hk : gt_ok t) {ext : List qm_LE} {D o m : Nat} (hm : o + (m + 1) = 5) (hD : 15 ≤ D) (h1 : OwC t ext (D - 7) mX3_readOne (o + 1) (pOne t m)) (h2 : OwC t ext (D - 2) mX3_readOr (o + 1) (pOr t m)) : OwC t ext D mX3_readOne o (pOne t (m + 1)) := by
  have ht := hk.1
  refine ⟨fun i cs σ h hc hi => ?_, fun e σ h => ?_⟩
  · rw [show pOne t (m + 1) i cs = gOne t (some (pOne t m, pOr t m)) i cs by unfold pOne; rw [lvU_s]; rfl]
    have htk := tk_lt hk i
    unfold gOne
    by_cases c1 : tk t i = 1
    · rw [if_pos c1]
      have hi160 := (tk_n0 (t := t) (i := i) (by omega)).2
      have hv := h.2.1.2.2.1 (by first | exact Or.inl c1 | exact Or.inr c2)
      obtain ⟨σ1, hO1, hR1, hs1⟩ := addR (ext := ext) h (by omega) (tvl t i)
      obtain ⟨σ2, hO2, hR2, hs2⟩ := nextR (ext := ext) hk hR1 (by omega)
      refine ⟨σ2, ?_, hR2, hs1.tr (hs2.wid (by omega) (by omega))⟩
      refine Ok.of (ls := [some (.ref 0), some (.int (nI o))]) (Nat.le_of_ble_eq_true rfl) rfl ?_
      refine ex_aload_n dX3_readOne_0 rfl rfl ?_
      refine ex_getI (s := 4) (x := nI (tk t i)) dX3_readOne_1 rfl qp_2_50 rfl rfl (h.2.1.2.1) ?_
      refine ex_iconst (x := 1) dX3_readOne_4 rfl rfl ?_
      refine ex_icmp_eq (q := 16) (q2 := 8) dX3_readOne_5 rfl rfl (fun _ => ?_) (fun hh => absurd (congrArg nI (show (tk t i) = 1 by omega)) hh)
      refine ex_aload_n dX3_readOne_16 rfl rfl ?_
      refine ex_aload_n dX3_readOne_17 rfl rfl ?_
      refine ex_getI (s := 4) (x := nI (tk t i)) dX3_readOne_18 rfl qp_2_50 rfl rfl (h.2.1.2.1) ?_
      refine ex_iconst (x := 2) dX3_readOne_21 rfl rfl ?_
      refine ex_icmp_ne (q := 36) (q2 := 25) dX3_readOne_22 rfl rfl (fun _ => ?_) (fun hh => absurd (fun zz => absurd ((nI_eq (a := (tk t i)) (b := 2) (by omega) (by omega)).mp zz) (by omega)) hh)
      refine ex_aload_n dX3_readOne_36 rfl rfl ?_
      refine ex_getI (s := 5) (x := nI (tvl t i)) dX3_readOne_37 rfl qp_2_81 rfl rfl (hv) ?_
      refine ex_callV (a := 0) (rest := []) dX3_readOne_40 rfl qp_2_62 rfl rfl rfl rfl rfl (Nat.le_of_ble_eq_true rfl) (hO1) (by omega) ?_
      show Ex (qm_layT ++ ext) _ mX3_readOne 43 [some (.ref 0), some (.int (nI o))] [] σ1 _ _
      refine ex_aload_n dX3_readOne_43 rfl rfl ?_
      refine ex_callV (a := 0) (rest := []) dX3_readOne_44 rfl qp_2_40 rfl rfl rfl rfl rfl (Nat.le_of_ble_eq_true rfl) (hO2) (by omega) ?_
      show Ex (qm_layT ++ ext) _ mX3_readOne 47 [some (.ref 0), some (.int (nI o))] [] σ2 _ _
      refine ex_goto (q := 129) dX3_readOne_47 rfl ?_
      exact ex_vret dX3_readOne_129 rfl rfl rfl
    · rw [if_neg c1]
      by_cases c2 : tk t i = 2
      · rw [if_pos c2]
        have hi160 := (tk_n0 (t := t) (i := i) (by omega)).2
        have hv := h.2.1.2.2.1 (by first | exact Or.inl c1 | exact Or.inr c2)
        obtain ⟨σ1, hO1, hR1, hs1⟩ := addR (ext := ext) h (by omega) (10000 + tvl t i)
        obtain ⟨σ2, hO2, hR2, hs2⟩ := nextR (ext := ext) hk hR1 (by omega)
        refine ⟨σ2, ?_, hR2, hs1.tr (hs2.wid (by omega) (by omega))⟩
        refine Ok.of (ls := [some (.ref 0), some (.int (nI o))]) (Nat.le_of_ble_eq_true rfl) rfl ?_
        refine ex_aload_n dX3_readOne_0 rfl rfl ?_
        refine ex_getI (s := 4) (x := nI (tk t i)) dX3_readOne_1 rfl qp_2_50 rfl rfl (h.2.1.2.1) ?_
        refine ex_iconst (x := 1) dX3_readOne_4 rfl rfl ?_
        refine ex_icmp_eq (q := 16) (q2 := 8) dX3_readOne_5 rfl rfl (fun hh => absurd hh (fun zz => absurd ((nI_eq (a := (tk t i)) (b := 1) (by omega) (by omega)).mp zz) (by omega))) (fun _ => ?_)
        refine ex_aload_n dX3_readOne_8 rfl rfl ?_
        refine ex_getI (s := 4) (x := nI (tk t i)) dX3_readOne_9 rfl qp_2_50 rfl rfl (h.2.1.2.1) ?_
        refine ex_iconst (x := 2) dX3_readOne_12 rfl rfl ?_
        refine ex_icmp_ne (q := 50) (q2 := 16) dX3_readOne_13 rfl rfl (fun hh => absurd hh (fun zz => zz (congrArg nI (show (tk t i) = 2 by omega)))) (fun _ => ?_)
        refine ex_aload_n dX3_readOne_16 rfl rfl ?_
        refine ex_aload_n dX3_readOne_17 rfl rfl ?_
        refine ex_getI (s := 4) (x := nI (tk t i)) dX3_readOne_18 rfl qp_2_50 rfl rfl (h.2.1.2.1) ?_
        refine ex_iconst (x := 2) dX3_readOne_21 rfl rfl ?_
        refine ex_icmp_ne (q := 36) (q2 := 25) dX3_readOne_22 rfl rfl (fun hh => absurd hh (fun zz => zz (congrArg nI (show (tk t i) = 2 by omega)))) (fun _ => ?_)
        refine ex_sipush (x := 10000) dX3_readOne_25 rfl rfl ?_
        refine ex_aload_n dX3_readOne_28 rfl rfl ?_
        refine ex_getI (s := 5) (x := nI (tvl t i)) dX3_readOne_29 rfl qp_2_81 rfl rfl (hv) ?_
        refine ex_iadd (z := nI (10000 + (tvl t i))) dX3_readOne_32 rfl (nI_add 10000 (tvl t i)) ?_
        refine ex_goto (q := 40) dX3_readOne_33 rfl ?_
        refine ex_callV (a := 0) (rest := []) dX3_readOne_40 rfl qp_2_62 rfl rfl rfl rfl rfl (Nat.le_of_ble_eq_true rfl) (hO1) (by omega) ?_
        show Ex (qm_layT ++ ext) _ mX3_readOne 43 [some (.ref 0), some (.int (nI o))] [] σ1 _ _
        refine ex_aload_n dX3_readOne_43 rfl rfl ?_
        refine ex_callV (a := 0) (rest := []) dX3_readOne_44 rfl qp_2_40 rfl rfl rfl rfl rfl (Nat.le_of_ble_eq_true rfl) (hO2) (by omega) ?_
        show Ex (qm_layT ++ ext) _ mX3_readOne 47 [some (.ref 0), some (.int (nI o))] [] σ2 _ _
        refine ex_goto (q := 129) dX3_readOne_47 rfl ?_
        exact ex_vret dX3_readOne_129 rfl rfl rfl
      · rw [if_neg c2]
        by_cases c45 : tk t i = 45
        · rw [if_pos c45]
          have hi160 := (tk_n0 (t := t) (i := i) (by omega)).2
          obtain ⟨σ1, hO1, hR1, hs1⟩ := nextR (ext := ext) hk h (by omega)
          obtain ⟨σ2, hO2, hP2, hs2⟩ := h1.1 (i + 1) cs σ1 hR1 (by omega) (by omega)
          show ∃ σ', Ok (qm_layT ++ ext) D mX3_readOne _ σ none σ' ∧ PPc_ t σ' (rb (pOne t m (i + 1) cs) (fun j c => .inr (j, c ++ [20010]))) ∧ sm σ σ' 1 7 0 1
          cases e : pOne t m (i + 1) cs with
          | inl e1 =>
            rw [e] at hP2
            obtain ⟨σ3, hO3, hP3, hs3⟩ := addF (ext := ext) hP2 20010
            refine ⟨σ3, ?_, hP3, (hs1.wid (by omega) (by omega)).tr (hs2.tr hs3)⟩
            refine Ok.of (ls := [some (.ref 0), some (.int (nI o))]) (Nat.le_of_ble_eq_true rfl) rfl ?_
            refine ex_aload_n dX3_readOne_0 rfl rfl ?_
            refine ex_getI (s := 4) (x := nI (tk t i)) dX3_readOne_1 rfl qp_2_50 rfl rfl (h.2.1.2.1) ?_
            refine ex_iconst (x := 1) dX3_readOne_4 rfl rfl ?_
            refine ex_icmp_eq (q := 16) (q2 := 8) dX3_readOne_5 rfl rfl (fun hh => absurd hh (fun zz => absurd ((nI_eq (a := (tk t i)) (b := 1) (by omega) (by omega)).mp zz) (by omega))) (fun _ => ?_)
            refine ex_aload_n dX3_readOne_8 rfl rfl ?_
            refine ex_getI (s := 4) (x := nI (tk t i)) dX3_readOne_9 rfl qp_2_50 rfl rfl (h.2.1.2.1) ?_
            refine ex_iconst (x := 2) dX3_readOne_12 rfl rfl ?_
            refine ex_icmp_ne (q := 50) (q2 := 16) dX3_readOne_13 rfl rfl (fun _ => ?_) (fun hh => absurd (fun zz => absurd ((nI_eq (a := (tk t i)) (b := 2) (by omega) (by omega)).mp zz) (by omega)) hh)
            refine ex_aload_n dX3_readOne_50 rfl rfl ?_
            refine ex_getI (s := 4) (x := nI (tk t i)) dX3_readOne_51 rfl qp_2_50 rfl rfl (h.2.1.2.1) ?_
            refine ex_bipush (x := 45) dX3_readOne_54 rfl rfl ?_
            refine ex_icmp_ne (q := 88) (q2 := 59) dX3_readOne_56 rfl rfl (fun hh => absurd hh (fun zz => zz (congrArg nI (show (tk t i) = 45 by omega)))) (fun _ => ?_)
            refine ex_aload_n dX3_readOne_59 rfl rfl ?_
            refine ex_iload_n dX3_readOne_60 rfl rfl ?_
            refine ex_callV (a := 0) (rest := []) dX3_readOne_61 rfl qp_2_68 rfl rfl rfl rfl rfl (Nat.le_of_ble_eq_true rfl) (c_mayOpen_t (ext := ext) _ (by omega)) (by omega) ?_
            show Ex (qm_layT ++ ext) _ mX3_readOne 64 [some (.ref 0), some (.int (nI o))] [.int 1] σ _ _
            refine ex_if_eq (q := 129) (q2 := 67) dX3_readOne_64 rfl rfl (fun hh => absurd hh (by decide)) (fun _ => ?_)
            refine ex_aload_n dX3_readOne_67 rfl rfl ?_
            refine ex_callV (a := 0) (rest := []) dX3_readOne_68 rfl qp_2_40 rfl rfl rfl rfl rfl (Nat.le_of_ble_eq_true rfl) (hO1) (by omega) ?_
            show Ex (qm_layT ++ ext) _ mX3_readOne 71 [some (.ref 0), some (.int (nI o))] [] σ1 _ _
            refine ex_aload_n dX3_readOne_71 rfl rfl ?_
            refine ex_iload_n dX3_readOne_72 rfl rfl ?_
            refine ex_iconst (x := 1) dX3_readOne_73 rfl rfl ?_
            refine ex_iadd (z := nI (o + 1)) dX3_readOne_74 rfl (nI_add o 1) ?_
            refine ex_callV (a := 0) (rest := []) dX3_readOne_75 rfl qp_2_78 rfl rfl rfl rfl rfl (Nat.le_of_ble_eq_true rfl) (hO2) (by omega) ?_
            show Ex (qm_layT ++ ext) _ mX3_readOne 78 [some (.ref 0), some (.int (nI o))] [] σ2 _ _
            refine ex_aload_n dX3_readOne_78 rfl rfl ?_
            refine ex_sipush (x := 20010) dX3_readOne_79 rfl rfl ?_
            refine ex_callV (a := 0) (rest := []) dX3_readOne_82 rfl qp_2_62 rfl rfl rfl rfl rfl (Nat.le_of_ble_eq_true rfl) (hO3) (by omega) ?_
            show Ex (qm_layT ++ ext) _ mX3_readOne 85 [some (.ref 0), some (.int (nI o))] [] σ3 _ _
            refine ex_goto (q := 129) dX3_readOne_85 rfl ?_
            exact ex_vret dX3_readOne_129 rfl rfl rfl
          | inr q =>
            rw [e] at hP2
            obtain ⟨g1, g2, g3⟩ := GP_le ht (GP_all t m (by omega)).1 e (n := 1) (by omega)
            obtain ⟨σ3, hO3, hP3, hs3⟩ := addR (ext := ext) hP2 (by omega) 20010
            refine ⟨σ3, ?_, hP3, (hs1.wid (by omega) (by omega)).tr (hs2.tr hs3)⟩
            refine Ok.of (ls := [some (.ref 0), some (.int (nI o))]) (Nat.le_of_ble_eq_true rfl) rfl ?_
            refine ex_aload_n dX3_readOne_0 rfl rfl ?_
            refine ex_getI (s := 4) (x := nI (tk t i)) dX3_readOne_1 rfl qp_2_50 rfl rfl (h.2.1.2.1) ?_
            refine ex_iconst (x := 1) dX3_readOne_4 rfl rfl ?_
            refine ex_icmp_eq (q := 16) (q2 := 8) dX3_readOne_5 rfl rfl (fun hh => absurd hh (fun zz => absurd ((nI_eq (a := (tk t i)) (b := 1) (by omega) (by omega)).mp zz) (by omega))) (fun _ => ?_)
            refine ex_aload_n dX3_readOne_8 rfl rfl ?_
            refine ex_getI (s := 4) (x := nI (tk t i)) dX3_readOne_9 rfl qp_2_50 rfl rfl (h.2.1.2.1) ?_
            refine ex_iconst (x := 2) dX3_readOne_12 rfl rfl ?_
            refine ex_icmp_ne (q := 50) (q2 := 16) dX3_readOne_13 rfl rfl (fun _ => ?_) (fun hh => absurd (fun zz => absurd ((nI_eq (a := (tk t i)) (b := 2) (by omega) (by omega)).mp zz) (by omega)) hh)
            refine ex_aload_n dX3_readOne_50 rfl rfl ?_
            refine ex_getI (s := 4) (x := nI (tk t i)) dX3_readOne_51 rfl qp_2_50 rfl rfl (h.2.1.2.1) ?_
            refine ex_bipush (x := 45) dX3_readOne_54 rfl rfl ?_
            refine ex_icmp_ne (q := 88) (q2 := 59) dX3_readOne_56 rfl rfl (fun hh => absurd hh (fun zz => zz (congrArg nI (show (tk t i) = 45 by omega)))) (fun _ => ?_)
            refine ex_aload_n dX3_readOne_59 rfl rfl ?_
            refine ex_iload_n dX3_readOne_60 rfl rfl ?_
            refine ex_callV (a := 0) (rest := []) dX3_readOne_61 rfl qp_2_68 rfl rfl rfl rfl rfl (Nat.le_of_ble_eq_true rfl) (c_mayOpen_t (ext := ext) _ (by omega)) (by omega) ?_
            show Ex (qm_layT ++ ext) _ mX3_readOne 64 [some (.ref 0), some (.int (nI o))] [.int 1] σ _ _
            refine ex_if_eq (q := 129) (q2 := 67) dX3_readOne_64 rfl rfl (fun hh => absurd hh (by decide)) (fun _ => ?_)
            refine ex_aload_n dX3_readOne_67 rfl rfl ?_
            refine ex_callV (a := 0) (rest := []) dX3_readOne_68 rfl qp_2_40 rfl rfl rfl rfl rfl (Nat.le_of_ble_eq_true rfl) (hO1) (by omega) ?_
            show Ex (qm_layT ++ ext) _ mX3_readOne 71 [some (.ref 0), some (.int (nI o))] [] σ1 _ _
            refine ex_aload_n dX3_readOne_71 rfl rfl ?_
            refine ex_iload_n dX3_readOne_72 rfl rfl ?_
            refine ex_iconst (x := 1) dX3_readOne_73 rfl rfl ?_
            refine ex_iadd (z := nI (o + 1)) dX3_readOne_74 rfl (nI_add o 1) ?_
            refine ex_callV (a := 0) (rest := []) dX3_readOne_75 rfl qp_2_78 rfl rfl rfl rfl rfl (Nat.le_of_ble_eq_true rfl) (hO2) (by omega) ?_
            show Ex (qm_layT ++ ext) _ mX3_readOne 78 [some (.ref 0), some (.int (nI o))] [] σ2 _ _
            refine ex_aload_n dX3_readOne_78 rfl rfl ?_
            refine ex_sipush (x := 20010) dX3_readOne_79 rfl rfl ?_
            refine ex_callV (a := 0) (rest := []) dX3_readOne_82 rfl qp_2_62 rfl rfl rfl rfl rfl (Nat.le_of_ble_eq_true rfl) (hO3) (by omega) ?_
            show Ex (qm_layT ++ ext) _ mX3_readOne 85 [some (.ref 0), some (.int (nI o))] [] σ3 _ _
            refine ex_goto (q := 129) dX3_readOne_85 rfl ?_
            exact ex_vret dX3_readOne_129 rfl rfl rfl
        · rw [if_neg c45]
          by_cases c40 : tk t i = 40
          · rw [if_pos c40]
            have hi160 := (tk_n0 (t := t) (i := i) (by omega)).2
            obtain ⟨σ1, hO1, hR1, hs1⟩ := nextR (ext := ext) hk h (by omega)
            obtain ⟨σ2, hO2, hP2, hs2⟩ := h2.1 (i + 1) cs σ1 hR1 (by omega) (by omega)
            show ∃ σ', Ok (qm_layT ++ ext) D mX3_readOne _ σ none σ' ∧ PPc_ t σ' (rb (pOr t m (i + 1) cs) (fun j c => if tk t j = 41 then .inr (j + 1, c) else .inl j)) ∧ sm σ σ' 1 7 0 1
            cases e : pOr t m (i + 1) cs with
            | inl e1 =>
              rw [e] at hP2
              obtain ⟨σ3, hO3, hP3, hs3⟩ := expect_41F (ext := ext) hk hP2
              refine ⟨σ3, ?_, hP3, (hs1.wid (by omega) (by omega)).tr (hs2.tr hs3)⟩
              refine Ok.of (ls := [some (.ref 0), some (.int (nI o))]) (Nat.le_of_ble_eq_true rfl) rfl ?_
              refine ex_aload_n dX3_readOne_0 rfl rfl ?_
              refine ex_getI (s := 4) (x := nI (tk t i)) dX3_readOne_1 rfl qp_2_50 rfl rfl (h.2.1.2.1) ?_
              refine ex_iconst (x := 1) dX3_readOne_4 rfl rfl ?_
              refine ex_icmp_eq (q := 16) (q2 := 8) dX3_readOne_5 rfl rfl (fun hh => absurd hh (fun zz => absurd ((nI_eq (a := (tk t i)) (b := 1) (by omega) (by omega)).mp zz) (by omega))) (fun _ => ?_)
              refine ex_aload_n dX3_readOne_8 rfl rfl ?_
              refine ex_getI (s := 4) (x := nI (tk t i)) dX3_readOne_9 rfl qp_2_50 rfl rfl (h.2.1.2.1) ?_
              refine ex_iconst (x := 2) dX3_readOne_12 rfl rfl ?_
              refine ex_icmp_ne (q := 50) (q2 := 16) dX3_readOne_13 rfl rfl (fun _ => ?_) (fun hh => absurd (fun zz => absurd ((nI_eq (a := (tk t i)) (b := 2) (by omega) (by omega)).mp zz) (by omega)) hh)
              refine ex_aload_n dX3_readOne_50 rfl rfl ?_
              refine ex_getI (s := 4) (x := nI (tk t i)) dX3_readOne_51 rfl qp_2_50 rfl rfl (h.2.1.2.1) ?_
              refine ex_bipush (x := 45) dX3_readOne_54 rfl rfl ?_
              refine ex_icmp_ne (q := 88) (q2 := 59) dX3_readOne_56 rfl rfl (fun _ => ?_) (fun hh => absurd (fun zz => absurd ((nI_eq (a := (tk t i)) (b := 45) (by omega) (by omega)).mp zz) (by omega)) hh)
              refine ex_aload_n dX3_readOne_88 rfl rfl ?_
              refine ex_getI (s := 4) (x := nI (tk t i)) dX3_readOne_89 rfl qp_2_50 rfl rfl (h.2.1.2.1) ?_
              refine ex_bipush (x := 40) dX3_readOne_92 rfl rfl ?_
              refine ex_icmp_ne (q := 125) (q2 := 97) dX3_readOne_94 rfl rfl (fun hh => absurd hh (fun zz => zz (congrArg nI (show (tk t i) = 40 by omega)))) (fun _ => ?_)
              refine ex_aload_n dX3_readOne_97 rfl rfl ?_
              refine ex_iload_n dX3_readOne_98 rfl rfl ?_
              refine ex_callV (a := 0) (rest := []) dX3_readOne_99 rfl qp_2_68 rfl rfl rfl rfl rfl (Nat.le_of_ble_eq_true rfl) (c_mayOpen_t (ext := ext) _ (by omega)) (by omega) ?_
              show Ex (qm_layT ++ ext) _ mX3_readOne 102 [some (.ref 0), some (.int (nI o))] [.int 1] σ _ _
              refine ex_if_eq (q := 129) (q2 := 105) dX3_readOne_102 rfl rfl (fun hh => absurd hh (by decide)) (fun _ => ?_)
              refine ex_aload_n dX3_readOne_105 rfl rfl ?_
              refine ex_callV (a := 0) (rest := []) dX3_readOne_106 rfl qp_2_40 rfl rfl rfl rfl rfl (Nat.le_of_ble_eq_true rfl) (hO1) (by omega) ?_
              show Ex (qm_layT ++ ext) _ mX3_readOne 109 [some (.ref 0), some (.int (nI o))] [] σ1 _ _
              refine ex_aload_n dX3_readOne_109 rfl rfl ?_
              refine ex_iload_n dX3_readOne_110 rfl rfl ?_
              refine ex_iconst (x := 1) dX3_readOne_111 rfl rfl ?_
              refine ex_iadd (z := nI (o + 1)) dX3_readOne_112 rfl (nI_add o 1) ?_
              refine ex_callV (a := 0) (rest := []) dX3_readOne_113 rfl qp_2_47 rfl rfl rfl rfl rfl (Nat.le_of_ble_eq_true rfl) (hO2) (by omega) ?_
              show Ex (qm_layT ++ ext) _ mX3_readOne 116 [some (.ref 0), some (.int (nI o))] [] σ2 _ _
              refine ex_aload_n dX3_readOne_116 rfl rfl ?_
              refine ex_bipush (x := 41) dX3_readOne_117 rfl rfl ?_
              refine ex_callV (a := 0) (rest := []) dX3_readOne_119 rfl qp_2_43 rfl rfl rfl rfl rfl (Nat.le_of_ble_eq_true rfl) (hO3) (by omega) ?_
              show Ex (qm_layT ++ ext) _ mX3_readOne 122 [some (.ref 0), some (.int (nI o))] [] σ3 _ _
              refine ex_goto (q := 129) dX3_readOne_122 rfl ?_
              exact ex_vret dX3_readOne_129 rfl rfl rfl
            | inr q =>
              rw [e] at hP2
              obtain ⟨g1, g2, g3⟩ := GP_le ht (GP_all t m (by omega)).2.2 e (n := 1) (by omega)
              obtain ⟨σ3, hO3, hP3, hs3⟩ := expect_41R (ext := ext) hk hP2 (by omega)
              refine ⟨σ3, ?_, hP3, (hs1.wid (by omega) (by omega)).tr (hs2.tr hs3)⟩
              refine Ok.of (ls := [some (.ref 0), some (.int (nI o))]) (Nat.le_of_ble_eq_true rfl) rfl ?_
              refine ex_aload_n dX3_readOne_0 rfl rfl ?_
              refine ex_getI (s := 4) (x := nI (tk t i)) dX3_readOne_1 rfl qp_2_50 rfl rfl (h.2.1.2.1) ?_
              refine ex_iconst (x := 1) dX3_readOne_4 rfl rfl ?_
              refine ex_icmp_eq (q := 16) (q2 := 8) dX3_readOne_5 rfl rfl (fun hh => absurd hh (fun zz => absurd ((nI_eq (a := (tk t i)) (b := 1) (by omega) (by omega)).mp zz) (by omega))) (fun _ => ?_)
              refine ex_aload_n dX3_readOne_8 rfl rfl ?_
              refine ex_getI (s := 4) (x := nI (tk t i)) dX3_readOne_9 rfl qp_2_50 rfl rfl (h.2.1.2.1) ?_
              refine ex_iconst (x := 2) dX3_readOne_12 rfl rfl ?_
              refine ex_icmp_ne (q := 50) (q2 := 16) dX3_readOne_13 rfl rfl (fun _ => ?_) (fun hh => absurd (fun zz => absurd ((nI_eq (a := (tk t i)) (b := 2) (by omega) (by omega)).mp zz) (by omega)) hh)
              refine ex_aload_n dX3_readOne_50 rfl rfl ?_
              refine ex_getI (s := 4) (x := nI (tk t i)) dX3_readOne_51 rfl qp_2_50 rfl rfl (h.2.1.2.1) ?_
              refine ex_bipush (x := 45) dX3_readOne_54 rfl rfl ?_
              refine ex_icmp_ne (q := 88) (q2 := 59) dX3_readOne_56 rfl rfl (fun _ => ?_) (fun hh => absurd (fun zz => absurd ((nI_eq (a := (tk t i)) (b := 45) (by omega) (by omega)).mp zz) (by omega)) hh)
              refine ex_aload_n dX3_readOne_88 rfl rfl ?_
              refine ex_getI (s := 4) (x := nI (tk t i)) dX3_readOne_89 rfl qp_2_50 rfl rfl (h.2.1.2.1) ?_
              refine ex_bipush (x := 40) dX3_readOne_92 rfl rfl ?_
              refine ex_icmp_ne (q := 125) (q2 := 97) dX3_readOne_94 rfl rfl (fun hh => absurd hh (fun zz => zz (congrArg nI (show (tk t i) = 40 by omega)))) (fun _ => ?_)
              refine ex_aload_n dX3_readOne_97 rfl rfl ?_
              refine ex_iload_n dX3_readOne_98 rfl rfl ?_
              refine ex_callV (a := 0) (rest := []) dX3_readOne_99 rfl qp_2_68 rfl rfl rfl rfl rfl (Nat.le_of_ble_eq_true rfl) (c_mayOpen_t (ext := ext) _ (by omega)) (by omega) ?_
              show Ex (qm_layT ++ ext) _ mX3_readOne 102 [some (.ref 0), some (.int (nI o))] [.int 1] σ _ _
              refine ex_if_eq (q := 129) (q2 := 105) dX3_readOne_102 rfl rfl (fun hh => absurd hh (by decide)) (fun _ => ?_)
              refine ex_aload_n dX3_readOne_105 rfl rfl ?_
              refine ex_callV (a := 0) (rest := []) dX3_readOne_106 rfl qp_2_40 rfl rfl rfl rfl rfl (Nat.le_of_ble_eq_true rfl) (hO1) (by omega) ?_
              show Ex (qm_layT ++ ext) _ mX3_readOne 109 [some (.ref 0), some (.int (nI o))] [] σ1 _ _
              refine ex_aload_n dX3_readOne_109 rfl rfl ?_
              refine ex_iload_n dX3_readOne_110 rfl rfl ?_
              refine ex_iconst (x := 1) dX3_readOne_111 rfl rfl ?_
              refine ex_iadd (z := nI (o + 1)) dX3_readOne_112 rfl (nI_add o 1) ?_
              refine ex_callV (a := 0) (rest := []) dX3_readOne_113 rfl qp_2_47 rfl rfl rfl rfl rfl (Nat.le_of_ble_eq_true rfl) (hO2) (by omega) ?_
              show Ex (qm_layT ++ ext) _ mX3_readOne 116 [some (.ref 0), some (.int (nI o))] [] σ2 _ _
              refine ex_aload_n dX3_readOne_116 rfl rfl ?_
              refine ex_bipush (x := 41) dX3_readOne_117 rfl rfl ?_
              refine ex_callV (a := 0) (rest := []) dX3_readOne_119 rfl qp_2_43 rfl rfl rfl rfl rfl (Nat.le_of_ble_eq_true rfl) (hO3) (by omega) ?_
              show Ex (qm_layT ++ ext) _ mX3_readOne 122 [some (.ref 0), some (.int (nI o))] [] σ3 _ _
              refine ex_goto (q := 129) dX3_readOne_122 rfl ?_
              exact ex_vret dX3_readOne_129 rfl rfl rfl
          · rw [if_neg c40]
            obtain ⟨σ1, hO1, hF1, hs1⟩ := failR (ext := ext) hk h (by omega)
            refine ⟨σ1, ?_, hF1, hs1⟩
            refine Ok.of (ls := [some (.ref 0), some (.int (nI o))]) (Nat.le_of_ble_eq_true rfl) rfl ?_
            refine ex_aload_n dX3_readOne_0 rfl rfl ?_
            refine ex_getI (s := 4) (x := nI (tk t i)) dX3_readOne_1 rfl qp_2_50 rfl rfl (h.2.1.2.1) ?_
            refine ex_iconst (x := 1) dX3_readOne_4 rfl rfl ?_
            refine ex_icmp_eq (q := 16) (q2 := 8) dX3_readOne_5 rfl rfl (fun hh => absurd hh (fun zz => absurd ((nI_eq (a := (tk t i)) (b := 1) (by omega) (by omega)).mp zz) (by omega))) (fun _ => ?_)
            refine ex_aload_n dX3_readOne_8 rfl rfl ?_
            refine ex_getI (s := 4) (x := nI (tk t i)) dX3_readOne_9 rfl qp_2_50 rfl rfl (h.2.1.2.1) ?_
            refine ex_iconst (x := 2) dX3_readOne_12 rfl rfl ?_
            refine ex_icmp_ne (q := 50) (q2 := 16) dX3_readOne_13 rfl rfl (fun _ => ?_) (fun hh => absurd (fun zz => absurd ((nI_eq (a := (tk t i)) (b := 2) (by omega) (by omega)).mp zz) (by omega)) hh)
            refine ex_aload_n dX3_readOne_50 rfl rfl ?_
            refine ex_getI (s := 4) (x := nI (tk t i)) dX3_readOne_51 rfl qp_2_50 rfl rfl (h.2.1.2.1) ?_
            refine ex_bipush (x := 45) dX3_readOne_54 rfl rfl ?_
            refine ex_icmp_ne (q := 88) (q2 := 59) dX3_readOne_56 rfl rfl (fun _ => ?_) (fun hh => absurd (fun zz => absurd ((nI_eq (a := (tk t i)) (b := 45) (by omega) (by omega)).mp zz) (by omega)) hh)
            refine ex_aload_n dX3_readOne_88 rfl rfl ?_
            refine ex_getI (s := 4) (x := nI (tk t i)) dX3_readOne_89 rfl qp_2_50 rfl rfl (h.2.1.2.1) ?_
            refine ex_bipush (x := 40) dX3_readOne_92 rfl rfl ?_
            refine ex_icmp_ne (q := 125) (q2 := 97) dX3_readOne_94 rfl rfl (fun _ => ?_) (fun hh => absurd (fun zz => absurd ((nI_eq (a := (tk t i)) (b := 40) (by omega) (by omega)).mp zz) (by omega)) hh)
            refine ex_aload_n dX3_readOne_125 rfl rfl ?_
            refine ex_callV (a := 0) (rest := []) dX3_readOne_126 rfl qp_2_53 rfl rfl rfl rfl rfl (Nat.le_of_ble_eq_true rfl) (hO1) (by omega) ?_
            show Ex (qm_layT ++ ext) _ mX3_readOne 129 [some (.ref 0), some (.int (nI o))] [] σ1 _ _
            exact ex_vret dX3_readOne_129 rfl rfl rfl
  · obtain ⟨σ1, hO1, hF1, hs1⟩ := failF (ext := ext) hk h
    refine ⟨σ1, ?_, hF1, hs1⟩
    refine Ok.of (ls := [some (.ref 0), some (.int (nI o))]) (Nat.le_of_ble_eq_true rfl) rfl ?_
    refine ex_aload_n dX3_readOne_0 rfl rfl ?_
    refine ex_getI (s := 4) (x := 3) dX3_readOne_1 rfl qp_2_50 rfl rfl (h.1) ?_
    refine ex_iconst (x := 1) dX3_readOne_4 rfl rfl ?_
    refine ex_icmp_eq (q := 16) (q2 := 8) dX3_readOne_5 rfl rfl (fun hh => absurd hh (by decide)) (fun _ => ?_)
    refine ex_aload_n dX3_readOne_8 rfl rfl ?_
    refine ex_getI (s := 4) (x := 3) dX3_readOne_9 rfl qp_2_50 rfl rfl (h.1) ?_
    refine ex_iconst (x := 2) dX3_readOne_12 rfl rfl ?_
    refine ex_icmp_ne (q := 50) (q2 := 16) dX3_readOne_13 rfl rfl (fun _ => ?_) (fun hh => absurd (by decide) hh)
    refine ex_aload_n dX3_readOne_50 rfl rfl ?_
    refine ex_getI (s := 4) (x := 3) dX3_readOne_51 rfl qp_2_50 rfl rfl (h.1) ?_
    refine ex_bipush (x := 45) dX3_readOne_54 rfl rfl ?_
    refine ex_icmp_ne (q := 88) (q2 := 59) dX3_readOne_56 rfl rfl (fun _ => ?_) (fun hh => absurd (by decide) hh)
    refine ex_aload_n dX3_readOne_88 rfl rfl ?_
    refine ex_getI (s := 4) (x := 3) dX3_readOne_89 rfl qp_2_50 rfl rfl (h.1) ?_
    refine ex_bipush (x := 40) dX3_readOne_92 rfl rfl ?_
    refine ex_icmp_ne (q := 125) (q2 := 97) dX3_readOne_94 rfl rfl (fun _ => ?_) (fun hh => absurd (by decide) hh)
    refine ex_aload_n dX3_readOne_125 rfl rfl ?_
    refine ex_callV (a := 0) (rest := []) dX3_readOne_126 rfl qp_2_53 rfl rfl rfl rfl rfl (Nat.le_of_ble_eq_true rfl) (hO1) (by omega) ?_
    show Ex (qm_layT ++ ext) _ mX3_readOne 129 [some (.ref 0), some (.int (nI o))] [] σ1 _ _
    exact ex_vret dX3_readOne_129 rfl rfl rfl

set_option maxRecDepth 8000 in
set_option maxHeartbeats 2000000 in
theorem hNot0 {t : gt_T} (hk : gt_ok t) {ext : List qm_LE} {D : Nat} (hS : OwC t ext D mX3_readSum 5 (pSum t 0)) (hD : 7 ≤ D) : OwC t ext (D + 1) mX3_readNot 5 (pNot t 0) := by
  have ht := hk.1
  have hgS := GP_seq t (GP_seq t (GP_all t 0 (by decide)).1 op_M) op_P
  obtain ⟨o, ho⟩ : ∃ o, o = 5 := ⟨5, rfl⟩
  rw [← ho] at hS ⊢
  refine ⟨fun i cs σ h hc hi => ?_, fun e σ h => ?_⟩
  · show ∃ σ', Ok (qm_layT ++ ext) (D + 1) mX3_readNot _ σ none σ' ∧ PPc_ t σ' (gNot t none (pSum t 0) i cs) ∧ sm σ σ' 1 7 0 1
    have htk := tk_lt hk i
    unfold gNot
    by_cases c9 : tk t i = 9
    · rw [if_pos c9]
      have hi160 := (tk_n0 (t := t) (i := i) (by omega)).2
      subst ho
      obtain ⟨σ1, hO1, hF1, hs1⟩ := mayOpenF (ext := ext) hk h (by omega)
      refine ⟨σ1, ?_, hF1, hs1⟩
      refine Ok.of (ls := [some (.ref 0), some (.int (nI 5)), none]) (Nat.le_of_ble_eq_true rfl) rfl ?_
      refine ex_aload_n dX3_readNot_0 rfl rfl ?_
      refine ex_getI (s := 4) (x := nI (tk t i)) dX3_readNot_1 rfl qp_2_50 rfl rfl (h.2.1.2.1) ?_
      refine ex_bipush (x := 9) dX3_readNot_4 rfl rfl ?_
      refine ex_icmp_ne (q := 36) (q2 := 9) dX3_readNot_6 rfl rfl (fun hh => absurd hh (fun zz => zz (congrArg nI (show (tk t i) = 9 by omega)))) (fun _ => ?_)
      refine ex_aload_n dX3_readNot_9 rfl rfl ?_
      refine ex_iload_n dX3_readNot_10 rfl rfl ?_
      refine ex_callV (a := 0) (rest := []) dX3_readNot_11 rfl qp_2_68 rfl rfl rfl rfl rfl (Nat.le_of_ble_eq_true rfl) (hO1) (by omega) ?_
      show Ex (qm_layT ++ ext) _ mX3_readNot 14 [some (.ref 0), some (.int (nI 5)), none] [.int 0] σ1 _ _
      refine ex_if_eq (q := 35) (q2 := 17) dX3_readNot_14 rfl rfl (fun _ => ?_) (fun hh => absurd (by decide) hh)
      exact ex_vret dX3_readNot_35 rfl rfl rfl
    · rw [if_neg c9]
      obtain ⟨σ1, hO1, hP1, hs1⟩ := hS.1 i cs σ h hc hi
      cases e : pSum t 0 i cs with
      | inl e1 =>
        rw [e] at hP1
        refine ⟨σ1, ?_, hP1, hs1⟩
        refine Ok.of (ls := [some (.ref 0), some (.int (nI o)), none]) (Nat.le_of_ble_eq_true rfl) rfl ?_
        refine ex_aload_n dX3_readNot_0 rfl rfl ?_
        refine ex_getI (s := 4) (x := nI (tk t i)) dX3_readNot_1 rfl qp_2_50 rfl rfl (h.2.1.2.1) ?_
        refine ex_bipush (x := 9) dX3_readNot_4 rfl rfl ?_
        refine ex_icmp_ne (q := 36) (q2 := 9) dX3_readNot_6 rfl rfl (fun _ => ?_) (fun hh => absurd (fun zz => absurd ((nI_eq (a := (tk t i)) (b := 9) (by omega) (by omega)).mp zz) (by omega)) hh)
        refine ex_aload_n dX3_readNot_36 rfl rfl ?_
        refine ex_iload_n dX3_readNot_37 rfl rfl ?_
        refine ex_callV (a := 0) (rest := []) dX3_readNot_38 rfl qp_2_72 rfl rfl rfl rfl rfl (Nat.le_of_ble_eq_true rfl) (hO1) (by omega) ?_
        show Ex (qm_layT ++ ext) _ mX3_readNot 41 [some (.ref 0), some (.int (nI o)), none] [] σ1 _ _
        refine ex_aload_n dX3_readNot_41 rfl rfl ?_
        refine ex_getI (s := 4) (x := 3) dX3_readNot_42 rfl qp_2_50 rfl rfl (hP1.1) ?_
        refine ex_bipush (x := 60) dX3_readNot_45 rfl rfl ?_
        refine ex_icmp_eq (q := 59) (q2 := 50) dX3_readNot_47 rfl rfl (fun hh => absurd hh (by decide)) (fun _ => ?_)
        refine ex_aload_n dX3_readNot_50 rfl rfl ?_
        refine ex_getI (s := 4) (x := 3) dX3_readNot_51 rfl qp_2_50 rfl rfl (hP1.1) ?_
        refine ex_bipush (x := 61) dX3_readNot_54 rfl rfl ?_
        refine ex_icmp_ne (q := 82) (q2 := 59) dX3_readNot_56 rfl rfl (fun _ => ?_) (fun hh => absurd (by decide) hh)
        exact ex_vret dX3_readNot_82 rfl rfl rfl
      | inr q =>
        rw [e] at hP1
        obtain ⟨g1, g2, g3⟩ := GP_le ht hgS e (n := 0) (by omega)
        have htq := tk_lt hk q.1
        show ∃ σ', Ok (qm_layT ++ ext) (D + 1) mX3_readNot _ σ none σ' ∧ PPc_ t σ' (if oC (tk t q.1) = true then rb (pSum t 0 (q.1 + 1) q.2) (fun k d => .inr (k, d ++ [20000 + tk t q.1])) else .inr (q.1, q.2)) ∧ sm σ σ' 1 7 0 1
        by_cases cC : oC (tk t q.1) = true
        · rw [if_pos cC]
          have c60 : tk t q.1 = 60 ∨ tk t q.1 = 61 := by
            unfold oC at cC
            rw [Bool.or_eq_true] at cC
            exact cC.imp of_decide_eq_true of_decide_eq_true
          have hq160 := (tk_n0 (t := t) (i := q.1) (by omega)).2
          obtain ⟨σ2, hO2, hR2, hs2⟩ := nextR (ext := ext) hk hP1 (by omega)
          obtain ⟨σ3, hO3, hP3, hs3⟩ := hS.1 (q.1 + 1) q.2 σ2 hR2 (by omega) (by omega)
          cases e2 : pSum t 0 (q.1 + 1) q.2 with
          | inl e3 =>
            rw [e2] at hP3
            obtain ⟨σ4, hO4, hP4, hs4⟩ := addF (ext := ext) hP3 (20000 + tk t q.1)
            refine ⟨σ4, ?_, hP4, hs1.tr ((hs2.wid (by omega) (by omega)).tr (hs3.tr hs4))⟩
            refine Ok.of (ls := [some (.ref 0), some (.int (nI o)), none]) (Nat.le_of_ble_eq_true rfl) rfl ?_
            rcases c60 with c60 | c60
            · refine ex_aload_n dX3_readNot_0 rfl rfl ?_
              refine ex_getI (s := 4) (x := nI (tk t i)) dX3_readNot_1 rfl qp_2_50 rfl rfl (h.2.1.2.1) ?_
              refine ex_bipush (x := 9) dX3_readNot_4 rfl rfl ?_
              refine ex_icmp_ne (q := 36) (q2 := 9) dX3_readNot_6 rfl rfl (fun _ => ?_) (fun hh => absurd (fun zz => absurd ((nI_eq (a := (tk t i)) (b := 9) (by omega) (by omega)).mp zz) (by omega)) hh)
              refine ex_aload_n dX3_readNot_36 rfl rfl ?_
              refine ex_iload_n dX3_readNot_37 rfl rfl ?_
              refine ex_callV (a := 0) (rest := []) dX3_readNot_38 rfl qp_2_72 rfl rfl rfl rfl rfl (Nat.le_of_ble_eq_true rfl) (hO1) (by omega) ?_
              show Ex (qm_layT ++ ext) _ mX3_readNot 41 [some (.ref 0), some (.int (nI o)), none] [] σ1 _ _
              refine ex_aload_n dX3_readNot_41 rfl rfl ?_
              refine ex_getI (s := 4) (x := nI (tk t q.1)) dX3_readNot_42 rfl qp_2_50 rfl rfl (hP1.2.1.2.1) ?_
              refine ex_bipush (x := 60) dX3_readNot_45 rfl rfl ?_
              refine ex_icmp_eq (q := 59) (q2 := 50) dX3_readNot_47 rfl rfl (fun _ => ?_) (fun hh => absurd (congrArg nI (show (tk t q.1) = 60 by omega)) hh)
              refine ex_aload_n dX3_readNot_59 rfl rfl ?_
              refine ex_getI (s := 4) (x := nI (tk t q.1)) dX3_readNot_60 rfl qp_2_50 rfl rfl (hP1.2.1.2.1) ?_
              refine ex_istore_n (ls' := [some (.ref 0), some (.int (nI o)), some (.int (nI (tk t q.1)))]) dX3_readNot_63 rfl (Nat.le_of_ble_eq_true rfl) rfl rfl ?_
              refine ex_aload_n dX3_readNot_64 rfl rfl ?_
              refine ex_callV (a := 0) (rest := []) dX3_readNot_65 rfl qp_2_40 rfl rfl rfl rfl rfl (Nat.le_of_ble_eq_true rfl) (hO2) (by omega) ?_
              show Ex (qm_layT ++ ext) _ mX3_readNot 68 [some (.ref 0), some (.int (nI o)), some (.int (nI (tk t q.1)))] [] σ2 _ _
              refine ex_aload_n dX3_readNot_68 rfl rfl ?_
              refine ex_iload_n dX3_readNot_69 rfl rfl ?_
              refine ex_callV (a := 0) (rest := []) dX3_readNot_70 rfl qp_2_72 rfl rfl rfl rfl rfl (Nat.le_of_ble_eq_true rfl) (hO3) (by omega) ?_
              show Ex (qm_layT ++ ext) _ mX3_readNot 73 [some (.ref 0), some (.int (nI o)), some (.int (nI (tk t q.1)))] [] σ3 _ _
              refine ex_aload_n dX3_readNot_73 rfl rfl ?_
              refine ex_sipush (x := 20000) dX3_readNot_74 rfl rfl ?_
              refine ex_iload_n dX3_readNot_77 rfl rfl ?_
              refine ex_iadd (z := nI (20000 + (tk t q.1))) dX3_readNot_78 rfl (nI_add 20000 (tk t q.1)) ?_
              refine ex_callV (a := 0) (rest := []) dX3_readNot_79 rfl qp_2_62 rfl rfl rfl rfl rfl (Nat.le_of_ble_eq_true rfl) (hO4) (by omega) ?_
              show Ex (qm_layT ++ ext) _ mX3_readNot 82 [some (.ref 0), some (.int (nI o)), some (.int (nI (tk t q.1)))] [] σ4 _ _
              exact ex_vret dX3_readNot_82 rfl rfl rfl
            · refine ex_aload_n dX3_readNot_0 rfl rfl ?_
              refine ex_getI (s := 4) (x := nI (tk t i)) dX3_readNot_1 rfl qp_2_50 rfl rfl (h.2.1.2.1) ?_
              refine ex_bipush (x := 9) dX3_readNot_4 rfl rfl ?_
              refine ex_icmp_ne (q := 36) (q2 := 9) dX3_readNot_6 rfl rfl (fun _ => ?_) (fun hh => absurd (fun zz => absurd ((nI_eq (a := (tk t i)) (b := 9) (by omega) (by omega)).mp zz) (by omega)) hh)
              refine ex_aload_n dX3_readNot_36 rfl rfl ?_
              refine ex_iload_n dX3_readNot_37 rfl rfl ?_
              refine ex_callV (a := 0) (rest := []) dX3_readNot_38 rfl qp_2_72 rfl rfl rfl rfl rfl (Nat.le_of_ble_eq_true rfl) (hO1) (by omega) ?_
              show Ex (qm_layT ++ ext) _ mX3_readNot 41 [some (.ref 0), some (.int (nI o)), none] [] σ1 _ _
              refine ex_aload_n dX3_readNot_41 rfl rfl ?_
              refine ex_getI (s := 4) (x := nI (tk t q.1)) dX3_readNot_42 rfl qp_2_50 rfl rfl (hP1.2.1.2.1) ?_
              refine ex_bipush (x := 60) dX3_readNot_45 rfl rfl ?_
              refine ex_icmp_eq (q := 59) (q2 := 50) dX3_readNot_47 rfl rfl (fun hh => absurd hh (fun zz => absurd ((nI_eq (a := (tk t q.1)) (b := 60) (by omega) (by omega)).mp zz) (by omega))) (fun _ => ?_)
              refine ex_aload_n dX3_readNot_50 rfl rfl ?_
              refine ex_getI (s := 4) (x := nI (tk t q.1)) dX3_readNot_51 rfl qp_2_50 rfl rfl (hP1.2.1.2.1) ?_
              refine ex_bipush (x := 61) dX3_readNot_54 rfl rfl ?_
              refine ex_icmp_ne (q := 82) (q2 := 59) dX3_readNot_56 rfl rfl (fun hh => absurd hh (fun zz => zz (congrArg nI (show (tk t q.1) = 61 by omega)))) (fun _ => ?_)
              refine ex_aload_n dX3_readNot_59 rfl rfl ?_
              refine ex_getI (s := 4) (x := nI (tk t q.1)) dX3_readNot_60 rfl qp_2_50 rfl rfl (hP1.2.1.2.1) ?_
              refine ex_istore_n (ls' := [some (.ref 0), some (.int (nI o)), some (.int (nI (tk t q.1)))]) dX3_readNot_63 rfl (Nat.le_of_ble_eq_true rfl) rfl rfl ?_
              refine ex_aload_n dX3_readNot_64 rfl rfl ?_
              refine ex_callV (a := 0) (rest := []) dX3_readNot_65 rfl qp_2_40 rfl rfl rfl rfl rfl (Nat.le_of_ble_eq_true rfl) (hO2) (by omega) ?_
              show Ex (qm_layT ++ ext) _ mX3_readNot 68 [some (.ref 0), some (.int (nI o)), some (.int (nI (tk t q.1)))] [] σ2 _ _
              refine ex_aload_n dX3_readNot_68 rfl rfl ?_
              refine ex_iload_n dX3_readNot_69 rfl rfl ?_
              refine ex_callV (a := 0) (rest := []) dX3_readNot_70 rfl qp_2_72 rfl rfl rfl rfl rfl (Nat.le_of_ble_eq_true rfl) (hO3) (by omega) ?_
              show Ex (qm_layT ++ ext) _ mX3_readNot 73 [some (.ref 0), some (.int (nI o)), some (.int (nI (tk t q.1)))] [] σ3 _ _
              refine ex_aload_n dX3_readNot_73 rfl rfl ?_
              refine ex_sipush (x := 20000) dX3_readNot_74 rfl rfl ?_
              refine ex_iload_n dX3_readNot_77 rfl rfl ?_
              refine ex_iadd (z := nI (20000 + (tk t q.1))) dX3_readNot_78 rfl (nI_add 20000 (tk t q.1)) ?_
              refine ex_callV (a := 0) (rest := []) dX3_readNot_79 rfl qp_2_62 rfl rfl rfl rfl rfl (Nat.le_of_ble_eq_true rfl) (hO4) (by omega) ?_
              show Ex (qm_layT ++ ext) _ mX3_readNot 82 [some (.ref 0), some (.int (nI o)), some (.int (nI (tk t q.1)))] [] σ4 _ _
              exact ex_vret dX3_readNot_82 rfl rfl rfl
          | inr q2 =>
            rw [e2] at hP3
            obtain ⟨k1, k2, k3⟩ := GP_le ht hgS e2 (n := 1) (by omega)
            obtain ⟨σ4, hO4, hP4, hs4⟩ := addR (ext := ext) hP3 (by omega) (20000 + tk t q.1)
            refine ⟨σ4, ?_, hP4, hs1.tr ((hs2.wid (by omega) (by omega)).tr (hs3.tr hs4))⟩
            refine Ok.of (ls := [some (.ref 0), some (.int (nI o)), none]) (Nat.le_of_ble_eq_true rfl) rfl ?_
            rcases c60 with c60 | c60
            · refine ex_aload_n dX3_readNot_0 rfl rfl ?_
              refine ex_getI (s := 4) (x := nI (tk t i)) dX3_readNot_1 rfl qp_2_50 rfl rfl (h.2.1.2.1) ?_
              refine ex_bipush (x := 9) dX3_readNot_4 rfl rfl ?_
              refine ex_icmp_ne (q := 36) (q2 := 9) dX3_readNot_6 rfl rfl (fun _ => ?_) (fun hh => absurd (fun zz => absurd ((nI_eq (a := (tk t i)) (b := 9) (by omega) (by omega)).mp zz) (by omega)) hh)
              refine ex_aload_n dX3_readNot_36 rfl rfl ?_
              refine ex_iload_n dX3_readNot_37 rfl rfl ?_
              refine ex_callV (a := 0) (rest := []) dX3_readNot_38 rfl qp_2_72 rfl rfl rfl rfl rfl (Nat.le_of_ble_eq_true rfl) (hO1) (by omega) ?_
              show Ex (qm_layT ++ ext) _ mX3_readNot 41 [some (.ref 0), some (.int (nI o)), none] [] σ1 _ _
              refine ex_aload_n dX3_readNot_41 rfl rfl ?_
              refine ex_getI (s := 4) (x := nI (tk t q.1)) dX3_readNot_42 rfl qp_2_50 rfl rfl (hP1.2.1.2.1) ?_
              refine ex_bipush (x := 60) dX3_readNot_45 rfl rfl ?_
              refine ex_icmp_eq (q := 59) (q2 := 50) dX3_readNot_47 rfl rfl (fun _ => ?_) (fun hh => absurd (congrArg nI (show (tk t q.1) = 60 by omega)) hh)
              refine ex_aload_n dX3_readNot_59 rfl rfl ?_
              refine ex_getI (s := 4) (x := nI (tk t q.1)) dX3_readNot_60 rfl qp_2_50 rfl rfl (hP1.2.1.2.1) ?_
              refine ex_istore_n (ls' := [some (.ref 0), some (.int (nI o)), some (.int (nI (tk t q.1)))]) dX3_readNot_63 rfl (Nat.le_of_ble_eq_true rfl) rfl rfl ?_
              refine ex_aload_n dX3_readNot_64 rfl rfl ?_
              refine ex_callV (a := 0) (rest := []) dX3_readNot_65 rfl qp_2_40 rfl rfl rfl rfl rfl (Nat.le_of_ble_eq_true rfl) (hO2) (by omega) ?_
              show Ex (qm_layT ++ ext) _ mX3_readNot 68 [some (.ref 0), some (.int (nI o)), some (.int (nI (tk t q.1)))] [] σ2 _ _
              refine ex_aload_n dX3_readNot_68 rfl rfl ?_
              refine ex_iload_n dX3_readNot_69 rfl rfl ?_
              refine ex_callV (a := 0) (rest := []) dX3_readNot_70 rfl qp_2_72 rfl rfl rfl rfl rfl (Nat.le_of_ble_eq_true rfl) (hO3) (by omega) ?_
              show Ex (qm_layT ++ ext) _ mX3_readNot 73 [some (.ref 0), some (.int (nI o)), some (.int (nI (tk t q.1)))] [] σ3 _ _
              refine ex_aload_n dX3_readNot_73 rfl rfl ?_
              refine ex_sipush (x := 20000) dX3_readNot_74 rfl rfl ?_
              refine ex_iload_n dX3_readNot_77 rfl rfl ?_
              refine ex_iadd (z := nI (20000 + (tk t q.1))) dX3_readNot_78 rfl (nI_add 20000 (tk t q.1)) ?_
              refine ex_callV (a := 0) (rest := []) dX3_readNot_79 rfl qp_2_62 rfl rfl rfl rfl rfl (Nat.le_of_ble_eq_true rfl) (hO4) (by omega) ?_
              show Ex (qm_layT ++ ext) _ mX3_readNot 82 [some (.ref 0), some (.int (nI o)), some (.int (nI (tk t q.1)))] [] σ4 _ _
              exact ex_vret dX3_readNot_82 rfl rfl rfl
            · refine ex_aload_n dX3_readNot_0 rfl rfl ?_
              refine ex_getI (s := 4) (x := nI (tk t i)) dX3_readNot_1 rfl qp_2_50 rfl rfl (h.2.1.2.1) ?_
              refine ex_bipush (x := 9) dX3_readNot_4 rfl rfl ?_
              refine ex_icmp_ne (q := 36) (q2 := 9) dX3_readNot_6 rfl rfl (fun _ => ?_) (fun hh => absurd (fun zz => absurd ((nI_eq (a := (tk t i)) (b := 9) (by omega) (by omega)).mp zz) (by omega)) hh)
              refine ex_aload_n dX3_readNot_36 rfl rfl ?_
              refine ex_iload_n dX3_readNot_37 rfl rfl ?_
              refine ex_callV (a := 0) (rest := []) dX3_readNot_38 rfl qp_2_72 rfl rfl rfl rfl rfl (Nat.le_of_ble_eq_true rfl) (hO1) (by omega) ?_
              show Ex (qm_layT ++ ext) _ mX3_readNot 41 [some (.ref 0), some (.int (nI o)), none] [] σ1 _ _
              refine ex_aload_n dX3_readNot_41 rfl rfl ?_
              refine ex_getI (s := 4) (x := nI (tk t q.1)) dX3_readNot_42 rfl qp_2_50 rfl rfl (hP1.2.1.2.1) ?_
              refine ex_bipush (x := 60) dX3_readNot_45 rfl rfl ?_
              refine ex_icmp_eq (q := 59) (q2 := 50) dX3_readNot_47 rfl rfl (fun hh => absurd hh (fun zz => absurd ((nI_eq (a := (tk t q.1)) (b := 60) (by omega) (by omega)).mp zz) (by omega))) (fun _ => ?_)
              refine ex_aload_n dX3_readNot_50 rfl rfl ?_
              refine ex_getI (s := 4) (x := nI (tk t q.1)) dX3_readNot_51 rfl qp_2_50 rfl rfl (hP1.2.1.2.1) ?_
              refine ex_bipush (x := 61) dX3_readNot_54 rfl rfl ?_
              refine ex_icmp_ne (q := 82) (q2 := 59) dX3_readNot_56 rfl rfl (fun hh => absurd hh (fun zz => zz (congrArg nI (show (tk t q.1) = 61 by omega)))) (fun _ => ?_)
              refine ex_aload_n dX3_readNot_59 rfl rfl ?_
              refine ex_getI (s := 4) (x := nI (tk t q.1)) dX3_readNot_60 rfl qp_2_50 rfl rfl (hP1.2.1.2.1) ?_
              refine ex_istore_n (ls' := [some (.ref 0), some (.int (nI o)), some (.int (nI (tk t q.1)))]) dX3_readNot_63 rfl (Nat.le_of_ble_eq_true rfl) rfl rfl ?_
              refine ex_aload_n dX3_readNot_64 rfl rfl ?_
              refine ex_callV (a := 0) (rest := []) dX3_readNot_65 rfl qp_2_40 rfl rfl rfl rfl rfl (Nat.le_of_ble_eq_true rfl) (hO2) (by omega) ?_
              show Ex (qm_layT ++ ext) _ mX3_readNot 68 [some (.ref 0), some (.int (nI o)), some (.int (nI (tk t q.1)))] [] σ2 _ _
              refine ex_aload_n dX3_readNot_68 rfl rfl ?_
              refine ex_iload_n dX3_readNot_69 rfl rfl ?_
              refine ex_callV (a := 0) (rest := []) dX3_readNot_70 rfl qp_2_72 rfl rfl rfl rfl rfl (Nat.le_of_ble_eq_true rfl) (hO3) (by omega) ?_
              show Ex (qm_layT ++ ext) _ mX3_readNot 73 [some (.ref 0), some (.int (nI o)), some (.int (nI (tk t q.1)))] [] σ3 _ _
              refine ex_aload_n dX3_readNot_73 rfl rfl ?_
              refine ex_sipush (x := 20000) dX3_readNot_74 rfl rfl ?_
              refine ex_iload_n dX3_readNot_77 rfl rfl ?_
              refine ex_iadd (z := nI (20000 + (tk t q.1))) dX3_readNot_78 rfl (nI_add 20000 (tk t q.1)) ?_
              refine ex_callV (a := 0) (rest := []) dX3_readNot_79 rfl qp_2_62 rfl rfl rfl rfl rfl (Nat.le_of_ble_eq_true rfl) (hO4) (by omega) ?_
              show Ex (qm_layT ++ ext) _ mX3_readNot 82 [some (.ref 0), some (.int (nI o)), some (.int (nI (tk t q.1)))] [] σ4 _ _
              exact ex_vret dX3_readNot_82 rfl rfl rfl
        · rw [if_neg cC]
          have c60 : ¬ tk t q.1 = 60 ∧ ¬ tk t q.1 = 61 := ⟨fun z => cC (by rw [z]; rfl), fun z => cC (by rw [z]; rfl)⟩
          refine ⟨σ1, ?_, hP1, hs1⟩
          refine Ok.of (ls := [some (.ref 0), some (.int (nI o)), none]) (Nat.le_of_ble_eq_true rfl) rfl ?_
          refine ex_aload_n dX3_readNot_0 rfl rfl ?_
          refine ex_getI (s := 4) (x := nI (tk t i)) dX3_readNot_1 rfl qp_2_50 rfl rfl (h.2.1.2.1) ?_
          refine ex_bipush (x := 9) dX3_readNot_4 rfl rfl ?_
          refine ex_icmp_ne (q := 36) (q2 := 9) dX3_readNot_6 rfl rfl (fun _ => ?_) (fun hh => absurd (fun zz => absurd ((nI_eq (a := (tk t i)) (b := 9) (by omega) (by omega)).mp zz) (by omega)) hh)
          refine ex_aload_n dX3_readNot_36 rfl rfl ?_
          refine ex_iload_n dX3_readNot_37 rfl rfl ?_
          refine ex_callV (a := 0) (rest := []) dX3_readNot_38 rfl qp_2_72 rfl rfl rfl rfl rfl (Nat.le_of_ble_eq_true rfl) (hO1) (by omega) ?_
          show Ex (qm_layT ++ ext) _ mX3_readNot 41 [some (.ref 0), some (.int (nI o)), none] [] σ1 _ _
          refine ex_aload_n dX3_readNot_41 rfl rfl ?_
          refine ex_getI (s := 4) (x := nI (tk t q.1)) dX3_readNot_42 rfl qp_2_50 rfl rfl (hP1.2.1.2.1) ?_
          refine ex_bipush (x := 60) dX3_readNot_45 rfl rfl ?_
          refine ex_icmp_eq (q := 59) (q2 := 50) dX3_readNot_47 rfl rfl (fun hh => absurd hh (fun zz => c60.1 ((nI_eq (by omega) (by decide)).mp zz))) (fun _ => ?_)
          refine ex_aload_n dX3_readNot_50 rfl rfl ?_
          refine ex_getI (s := 4) (x := nI (tk t q.1)) dX3_readNot_51 rfl qp_2_50 rfl rfl (hP1.2.1.2.1) ?_
          refine ex_bipush (x := 61) dX3_readNot_54 rfl rfl ?_
          refine ex_icmp_ne (q := 82) (q2 := 59) dX3_readNot_56 rfl rfl (fun _ => ?_) (fun hh => absurd (fun zz => c60.2 ((nI_eq (by omega) (by decide)).mp zz)) hh)
          exact ex_vret dX3_readNot_82 rfl rfl rfl
  · obtain ⟨σ1, hO1, hF1, hs1⟩ := hS.2 e σ h
    refine ⟨σ1, ?_, hF1, hs1⟩
    refine Ok.of (ls := [some (.ref 0), some (.int (nI o)), none]) (Nat.le_of_ble_eq_true rfl) rfl ?_
    refine ex_aload_n dX3_readNot_0 rfl rfl ?_
    refine ex_getI (s := 4) (x := 3) dX3_readNot_1 rfl qp_2_50 rfl rfl (h.1) ?_
    refine ex_bipush (x := 9) dX3_readNot_4 rfl rfl ?_
    refine ex_icmp_ne (q := 36) (q2 := 9) dX3_readNot_6 rfl rfl (fun _ => ?_) (fun hh => absurd (by decide) hh)
    refine ex_aload_n dX3_readNot_36 rfl rfl ?_
    refine ex_iload_n dX3_readNot_37 rfl rfl ?_
    refine ex_callV (a := 0) (rest := []) dX3_readNot_38 rfl qp_2_72 rfl rfl rfl rfl rfl (Nat.le_of_ble_eq_true rfl) (hO1) (by omega) ?_
    show Ex (qm_layT ++ ext) _ mX3_readNot 41 [some (.ref 0), some (.int (nI o)), none] [] σ1 _ _
    refine ex_aload_n dX3_readNot_41 rfl rfl ?_
    refine ex_getI (s := 4) (x := 3) dX3_readNot_42 rfl qp_2_50 rfl rfl (hF1.1) ?_
    refine ex_bipush (x := 60) dX3_readNot_45 rfl rfl ?_
    refine ex_icmp_eq (q := 59) (q2 := 50) dX3_readNot_47 rfl rfl (fun hh => absurd hh (by decide)) (fun _ => ?_)
    refine ex_aload_n dX3_readNot_50 rfl rfl ?_
    refine ex_getI (s := 4) (x := 3) dX3_readNot_51 rfl qp_2_50 rfl rfl (hF1.1) ?_
    refine ex_bipush (x := 61) dX3_readNot_54 rfl rfl ?_
    refine ex_icmp_ne (q := 82) (q2 := 59) dX3_readNot_56 rfl rfl (fun _ => ?_) (fun hh => absurd (by decide) hh)
    exact ex_vret dX3_readNot_82 rfl rfl rfl

set_option maxRecDepth 8000 in
set_option maxHeartbeats 2000000 in
theorem hNotS {t : gt_T} (hk : gt_ok t) {ext : List qm_LE} {D o m : Nat} (hm : o + (m + 1) = 5) (hS : OwC t ext D mX3_readSum o (pSum t (m + 1))) (hD : 7 ≤ D) (hN : OwC t ext (D - 6) mX3_readNot (o + 1) (pNot t m)) : OwC t ext (D + 1) mX3_readNot o (pNot t (m + 1)) := by
  have ht := hk.1
  have hgS := GP_seq t (GP_seq t (GP_all t (m + 1) (by omega)).1 op_M) op_P
  refine ⟨fun i cs σ h hc hi => ?_, fun e σ h => ?_⟩
  · rw [show pNot t (m + 1) i cs = gNot t (some (pNot t m)) (pSum t (m + 1)) i cs by unfold pNot; rw [lvU_s]; rfl]
    have htk := tk_lt hk i
    unfold gNot
    by_cases c9 : tk t i = 9
    · rw [if_pos c9]
      have hi160 := (tk_n0 (t := t) (i := i) (by omega)).2
      obtain ⟨σ1, hO1, hR1, hs1⟩ := nextR (ext := ext) hk h (by omega)
      obtain ⟨σ2, hO2, hP2, hs2⟩ := hN.1 (i + 1) cs σ1 hR1 (by omega) (by omega)
      show ∃ σ', Ok (qm_layT ++ ext) (D + 1) mX3_readNot _ σ none σ' ∧ PPc_ t σ' (rb (pNot t m (i + 1) cs) (fun j c => .inr (j, c ++ [20009]))) ∧ sm σ σ' 1 7 0 1
      cases e : pNot t m (i + 1) cs with
      | inl e1 =>
        rw [e] at hP2
        obtain ⟨σ3, hO3, hP3, hs3⟩ := addF (ext := ext) hP2 20009
        refine ⟨σ3, ?_, hP3, (hs1.wid (by omega) (by omega)).tr (hs2.tr hs3)⟩
        refine Ok.of (ls := [some (.ref 0), some (.int (nI o)), none]) (Nat.le_of_ble_eq_true rfl) rfl ?_
        refine ex_aload_n dX3_readNot_0 rfl rfl ?_
        refine ex_getI (s := 4) (x := nI (tk t i)) dX3_readNot_1 rfl qp_2_50 rfl rfl (h.2.1.2.1) ?_
        refine ex_bipush (x := 9) dX3_readNot_4 rfl rfl ?_
        refine ex_icmp_ne (q := 36) (q2 := 9) dX3_readNot_6 rfl rfl (fun hh => absurd hh (fun zz => zz (congrArg nI (show (tk t i) = 9 by omega)))) (fun _ => ?_)
        refine ex_aload_n dX3_readNot_9 rfl rfl ?_
        refine ex_iload_n dX3_readNot_10 rfl rfl ?_
        refine ex_callV (a := 0) (rest := []) dX3_readNot_11 rfl qp_2_68 rfl rfl rfl rfl rfl (Nat.le_of_ble_eq_true rfl) (c_mayOpen_t (ext := ext) _ (by omega)) (by omega) ?_
        show Ex (qm_layT ++ ext) _ mX3_readNot 14 [some (.ref 0), some (.int (nI o)), none] [.int 1] σ _ _
        refine ex_if_eq (q := 35) (q2 := 17) dX3_readNot_14 rfl rfl (fun hh => absurd hh (by decide)) (fun _ => ?_)
        refine ex_aload_n dX3_readNot_17 rfl rfl ?_
        refine ex_callV (a := 0) (rest := []) dX3_readNot_18 rfl qp_2_40 rfl rfl rfl rfl rfl (Nat.le_of_ble_eq_true rfl) (hO1) (by omega) ?_
        show Ex (qm_layT ++ ext) _ mX3_readNot 21 [some (.ref 0), some (.int (nI o)), none] [] σ1 _ _
        refine ex_aload_n dX3_readNot_21 rfl rfl ?_
        refine ex_iload_n dX3_readNot_22 rfl rfl ?_
        refine ex_iconst (x := 1) dX3_readNot_23 rfl rfl ?_
        refine ex_iadd (z := nI (o + 1)) dX3_readNot_24 rfl (nI_add o 1) ?_
        refine ex_callV (a := 0) (rest := []) dX3_readNot_25 rfl qp_2_65 rfl rfl rfl rfl rfl (Nat.le_of_ble_eq_true rfl) (hO2) (by omega) ?_
        show Ex (qm_layT ++ ext) _ mX3_readNot 28 [some (.ref 0), some (.int (nI o)), none] [] σ2 _ _
        refine ex_aload_n dX3_readNot_28 rfl rfl ?_
        refine ex_sipush (x := 20009) dX3_readNot_29 rfl rfl ?_
        refine ex_callV (a := 0) (rest := []) dX3_readNot_32 rfl qp_2_62 rfl rfl rfl rfl rfl (Nat.le_of_ble_eq_true rfl) (hO3) (by omega) ?_
        show Ex (qm_layT ++ ext) _ mX3_readNot 35 [some (.ref 0), some (.int (nI o)), none] [] σ3 _ _
        exact ex_vret dX3_readNot_35 rfl rfl rfl
      | inr q =>
        rw [e] at hP2
        obtain ⟨g1, g2, g3⟩ := GP_le ht (GP_all t m (by omega)).2.1 e (n := 1) (by omega)
        obtain ⟨σ3, hO3, hP3, hs3⟩ := addR (ext := ext) hP2 (by omega) 20009
        refine ⟨σ3, ?_, hP3, (hs1.wid (by omega) (by omega)).tr (hs2.tr hs3)⟩
        refine Ok.of (ls := [some (.ref 0), some (.int (nI o)), none]) (Nat.le_of_ble_eq_true rfl) rfl ?_
        refine ex_aload_n dX3_readNot_0 rfl rfl ?_
        refine ex_getI (s := 4) (x := nI (tk t i)) dX3_readNot_1 rfl qp_2_50 rfl rfl (h.2.1.2.1) ?_
        refine ex_bipush (x := 9) dX3_readNot_4 rfl rfl ?_
        refine ex_icmp_ne (q := 36) (q2 := 9) dX3_readNot_6 rfl rfl (fun hh => absurd hh (fun zz => zz (congrArg nI (show (tk t i) = 9 by omega)))) (fun _ => ?_)
        refine ex_aload_n dX3_readNot_9 rfl rfl ?_
        refine ex_iload_n dX3_readNot_10 rfl rfl ?_
        refine ex_callV (a := 0) (rest := []) dX3_readNot_11 rfl qp_2_68 rfl rfl rfl rfl rfl (Nat.le_of_ble_eq_true rfl) (c_mayOpen_t (ext := ext) _ (by omega)) (by omega) ?_
        show Ex (qm_layT ++ ext) _ mX3_readNot 14 [some (.ref 0), some (.int (nI o)), none] [.int 1] σ _ _
        refine ex_if_eq (q := 35) (q2 := 17) dX3_readNot_14 rfl rfl (fun hh => absurd hh (by decide)) (fun _ => ?_)
        refine ex_aload_n dX3_readNot_17 rfl rfl ?_
        refine ex_callV (a := 0) (rest := []) dX3_readNot_18 rfl qp_2_40 rfl rfl rfl rfl rfl (Nat.le_of_ble_eq_true rfl) (hO1) (by omega) ?_
        show Ex (qm_layT ++ ext) _ mX3_readNot 21 [some (.ref 0), some (.int (nI o)), none] [] σ1 _ _
        refine ex_aload_n dX3_readNot_21 rfl rfl ?_
        refine ex_iload_n dX3_readNot_22 rfl rfl ?_
        refine ex_iconst (x := 1) dX3_readNot_23 rfl rfl ?_
        refine ex_iadd (z := nI (o + 1)) dX3_readNot_24 rfl (nI_add o 1) ?_
        refine ex_callV (a := 0) (rest := []) dX3_readNot_25 rfl qp_2_65 rfl rfl rfl rfl rfl (Nat.le_of_ble_eq_true rfl) (hO2) (by omega) ?_
        show Ex (qm_layT ++ ext) _ mX3_readNot 28 [some (.ref 0), some (.int (nI o)), none] [] σ2 _ _
        refine ex_aload_n dX3_readNot_28 rfl rfl ?_
        refine ex_sipush (x := 20009) dX3_readNot_29 rfl rfl ?_
        refine ex_callV (a := 0) (rest := []) dX3_readNot_32 rfl qp_2_62 rfl rfl rfl rfl rfl (Nat.le_of_ble_eq_true rfl) (hO3) (by omega) ?_
        show Ex (qm_layT ++ ext) _ mX3_readNot 35 [some (.ref 0), some (.int (nI o)), none] [] σ3 _ _
        exact ex_vret dX3_readNot_35 rfl rfl rfl
    · rw [if_neg c9]
      obtain ⟨σ1, hO1, hP1, hs1⟩ := hS.1 i cs σ h hc hi
      cases e : pSum t (m + 1) i cs with
      | inl e1 =>
        rw [e] at hP1
        refine ⟨σ1, ?_, hP1, hs1⟩
        refine Ok.of (ls := [some (.ref 0), some (.int (nI o)), none]) (Nat.le_of_ble_eq_true rfl) rfl ?_
        refine ex_aload_n dX3_readNot_0 rfl rfl ?_
        refine ex_getI (s := 4) (x := nI (tk t i)) dX3_readNot_1 rfl qp_2_50 rfl rfl (h.2.1.2.1) ?_
        refine ex_bipush (x := 9) dX3_readNot_4 rfl rfl ?_
        refine ex_icmp_ne (q := 36) (q2 := 9) dX3_readNot_6 rfl rfl (fun _ => ?_) (fun hh => absurd (fun zz => absurd ((nI_eq (a := (tk t i)) (b := 9) (by omega) (by omega)).mp zz) (by omega)) hh)
        refine ex_aload_n dX3_readNot_36 rfl rfl ?_
        refine ex_iload_n dX3_readNot_37 rfl rfl ?_
        refine ex_callV (a := 0) (rest := []) dX3_readNot_38 rfl qp_2_72 rfl rfl rfl rfl rfl (Nat.le_of_ble_eq_true rfl) (hO1) (by omega) ?_
        show Ex (qm_layT ++ ext) _ mX3_readNot 41 [some (.ref 0), some (.int (nI o)), none] [] σ1 _ _
        refine ex_aload_n dX3_readNot_41 rfl rfl ?_
        refine ex_getI (s := 4) (x := 3) dX3_readNot_42 rfl qp_2_50 rfl rfl (hP1.1) ?_
        refine ex_bipush (x := 60) dX3_readNot_45 rfl rfl ?_
        refine ex_icmp_eq (q := 59) (q2 := 50) dX3_readNot_47 rfl rfl (fun hh => absurd hh (by decide)) (fun _ => ?_)
        refine ex_aload_n dX3_readNot_50 rfl rfl ?_
        refine ex_getI (s := 4) (x := 3) dX3_readNot_51 rfl qp_2_50 rfl rfl (hP1.1) ?_
        refine ex_bipush (x := 61) dX3_readNot_54 rfl rfl ?_
        refine ex_icmp_ne (q := 82) (q2 := 59) dX3_readNot_56 rfl rfl (fun _ => ?_) (fun hh => absurd (by decide) hh)
        exact ex_vret dX3_readNot_82 rfl rfl rfl
      | inr q =>
        rw [e] at hP1
        obtain ⟨g1, g2, g3⟩ := GP_le ht hgS e (n := 0) (by omega)
        have htq := tk_lt hk q.1
        show ∃ σ', Ok (qm_layT ++ ext) (D + 1) mX3_readNot _ σ none σ' ∧ PPc_ t σ' (if oC (tk t q.1) = true then rb (pSum t (m + 1) (q.1 + 1) q.2) (fun k d => .inr (k, d ++ [20000 + tk t q.1])) else .inr (q.1, q.2)) ∧ sm σ σ' 1 7 0 1
        by_cases cC : oC (tk t q.1) = true
        · rw [if_pos cC]
          have c60 : tk t q.1 = 60 ∨ tk t q.1 = 61 := by
            unfold oC at cC
            rw [Bool.or_eq_true] at cC
            exact cC.imp of_decide_eq_true of_decide_eq_true
          have hq160 := (tk_n0 (t := t) (i := q.1) (by omega)).2
          obtain ⟨σ2, hO2, hR2, hs2⟩ := nextR (ext := ext) hk hP1 (by omega)
          obtain ⟨σ3, hO3, hP3, hs3⟩ := hS.1 (q.1 + 1) q.2 σ2 hR2 (by omega) (by omega)
          cases e2 : pSum t (m + 1) (q.1 + 1) q.2 with
          | inl e3 =>
            rw [e2] at hP3
            obtain ⟨σ4, hO4, hP4, hs4⟩ := addF (ext := ext) hP3 (20000 + tk t q.1)
            refine ⟨σ4, ?_, hP4, hs1.tr ((hs2.wid (by omega) (by omega)).tr (hs3.tr hs4))⟩
            refine Ok.of (ls := [some (.ref 0), some (.int (nI o)), none]) (Nat.le_of_ble_eq_true rfl) rfl ?_
            rcases c60 with c60 | c60
            · refine ex_aload_n dX3_readNot_0 rfl rfl ?_
              refine ex_getI (s := 4) (x := nI (tk t i)) dX3_readNot_1 rfl qp_2_50 rfl rfl (h.2.1.2.1) ?_
              refine ex_bipush (x := 9) dX3_readNot_4 rfl rfl ?_
              refine ex_icmp_ne (q := 36) (q2 := 9) dX3_readNot_6 rfl rfl (fun _ => ?_) (fun hh => absurd (fun zz => absurd ((nI_eq (a := (tk t i)) (b := 9) (by omega) (by omega)).mp zz) (by omega)) hh)
              refine ex_aload_n dX3_readNot_36 rfl rfl ?_
              refine ex_iload_n dX3_readNot_37 rfl rfl ?_
              refine ex_callV (a := 0) (rest := []) dX3_readNot_38 rfl qp_2_72 rfl rfl rfl rfl rfl (Nat.le_of_ble_eq_true rfl) (hO1) (by omega) ?_
              show Ex (qm_layT ++ ext) _ mX3_readNot 41 [some (.ref 0), some (.int (nI o)), none] [] σ1 _ _
              refine ex_aload_n dX3_readNot_41 rfl rfl ?_
              refine ex_getI (s := 4) (x := nI (tk t q.1)) dX3_readNot_42 rfl qp_2_50 rfl rfl (hP1.2.1.2.1) ?_
              refine ex_bipush (x := 60) dX3_readNot_45 rfl rfl ?_
              refine ex_icmp_eq (q := 59) (q2 := 50) dX3_readNot_47 rfl rfl (fun _ => ?_) (fun hh => absurd (congrArg nI (show (tk t q.1) = 60 by omega)) hh)
              refine ex_aload_n dX3_readNot_59 rfl rfl ?_
              refine ex_getI (s := 4) (x := nI (tk t q.1)) dX3_readNot_60 rfl qp_2_50 rfl rfl (hP1.2.1.2.1) ?_
              refine ex_istore_n (ls' := [some (.ref 0), some (.int (nI o)), some (.int (nI (tk t q.1)))]) dX3_readNot_63 rfl (Nat.le_of_ble_eq_true rfl) rfl rfl ?_
              refine ex_aload_n dX3_readNot_64 rfl rfl ?_
              refine ex_callV (a := 0) (rest := []) dX3_readNot_65 rfl qp_2_40 rfl rfl rfl rfl rfl (Nat.le_of_ble_eq_true rfl) (hO2) (by omega) ?_
              show Ex (qm_layT ++ ext) _ mX3_readNot 68 [some (.ref 0), some (.int (nI o)), some (.int (nI (tk t q.1)))] [] σ2 _ _
              refine ex_aload_n dX3_readNot_68 rfl rfl ?_
              refine ex_iload_n dX3_readNot_69 rfl rfl ?_
              refine ex_callV (a := 0) (rest := []) dX3_readNot_70 rfl qp_2_72 rfl rfl rfl rfl rfl (Nat.le_of_ble_eq_true rfl) (hO3) (by omega) ?_
              show Ex (qm_layT ++ ext) _ mX3_readNot 73 [some (.ref 0), some (.int (nI o)), some (.int (nI (tk t q.1)))] [] σ3 _ _
              refine ex_aload_n dX3_readNot_73 rfl rfl ?_
              refine ex_sipush (x := 20000) dX3_readNot_74 rfl rfl ?_
              refine ex_iload_n dX3_readNot_77 rfl rfl ?_
              refine ex_iadd (z := nI (20000 + (tk t q.1))) dX3_readNot_78 rfl (nI_add 20000 (tk t q.1)) ?_
              refine ex_callV (a := 0) (rest := []) dX3_readNot_79 rfl qp_2_62 rfl rfl rfl rfl rfl (Nat.le_of_ble_eq_true rfl) (hO4) (by omega) ?_
              show Ex (qm_layT ++ ext) _ mX3_readNot 82 [some (.ref 0), some (.int (nI o)), some (.int (nI (tk t q.1)))] [] σ4 _ _
              exact ex_vret dX3_readNot_82 rfl rfl rfl
            · refine ex_aload_n dX3_readNot_0 rfl rfl ?_
              refine ex_getI (s := 4) (x := nI (tk t i)) dX3_readNot_1 rfl qp_2_50 rfl rfl (h.2.1.2.1) ?_
              refine ex_bipush (x := 9) dX3_readNot_4 rfl rfl ?_
              refine ex_icmp_ne (q := 36) (q2 := 9) dX3_readNot_6 rfl rfl (fun _ => ?_) (fun hh => absurd (fun zz => absurd ((nI_eq (a := (tk t i)) (b := 9) (by omega) (by omega)).mp zz) (by omega)) hh)
              refine ex_aload_n dX3_readNot_36 rfl rfl ?_
              refine ex_iload_n dX3_readNot_37 rfl rfl ?_
              refine ex_callV (a := 0) (rest := []) dX3_readNot_38 rfl qp_2_72 rfl rfl rfl rfl rfl (Nat.le_of_ble_eq_true rfl) (hO1) (by omega) ?_
              show Ex (qm_layT ++ ext) _ mX3_readNot 41 [some (.ref 0), some (.int (nI o)), none] [] σ1 _ _
              refine ex_aload_n dX3_readNot_41 rfl rfl ?_
              refine ex_getI (s := 4) (x := nI (tk t q.1)) dX3_readNot_42 rfl qp_2_50 rfl rfl (hP1.2.1.2.1) ?_
              refine ex_bipush (x := 60) dX3_readNot_45 rfl rfl ?_
              refine ex_icmp_eq (q := 59) (q2 := 50) dX3_readNot_47 rfl rfl (fun hh => absurd hh (fun zz => absurd ((nI_eq (a := (tk t q.1)) (b := 60) (by omega) (by omega)).mp zz) (by omega))) (fun _ => ?_)
              refine ex_aload_n dX3_readNot_50 rfl rfl ?_
              refine ex_getI (s := 4) (x := nI (tk t q.1)) dX3_readNot_51 rfl qp_2_50 rfl rfl (hP1.2.1.2.1) ?_
              refine ex_bipush (x := 61) dX3_readNot_54 rfl rfl ?_
              refine ex_icmp_ne (q := 82) (q2 := 59) dX3_readNot_56 rfl rfl (fun hh => absurd hh (fun zz => zz (congrArg nI (show (tk t q.1) = 61 by omega)))) (fun _ => ?_)
              refine ex_aload_n dX3_readNot_59 rfl rfl ?_
              refine ex_getI (s := 4) (x := nI (tk t q.1)) dX3_readNot_60 rfl qp_2_50 rfl rfl (hP1.2.1.2.1) ?_
              refine ex_istore_n (ls' := [some (.ref 0), some (.int (nI o)), some (.int (nI (tk t q.1)))]) dX3_readNot_63 rfl (Nat.le_of_ble_eq_true rfl) rfl rfl ?_
              refine ex_aload_n dX3_readNot_64 rfl rfl ?_
              refine ex_callV (a := 0) (rest := []) dX3_readNot_65 rfl qp_2_40 rfl rfl rfl rfl rfl (Nat.le_of_ble_eq_true rfl) (hO2) (by omega) ?_
              show Ex (qm_layT ++ ext) _ mX3_readNot 68 [some (.ref 0), some (.int (nI o)), some (.int (nI (tk t q.1)))] [] σ2 _ _
              refine ex_aload_n dX3_readNot_68 rfl rfl ?_
              refine ex_iload_n dX3_readNot_69 rfl rfl ?_
              refine ex_callV (a := 0) (rest := []) dX3_readNot_70 rfl qp_2_72 rfl rfl rfl rfl rfl (Nat.le_of_ble_eq_true rfl) (hO3) (by omega) ?_
              show Ex (qm_layT ++ ext) _ mX3_readNot 73 [some (.ref 0), some (.int (nI o)), some (.int (nI (tk t q.1)))] [] σ3 _ _
              refine ex_aload_n dX3_readNot_73 rfl rfl ?_
              refine ex_sipush (x := 20000) dX3_readNot_74 rfl rfl ?_
              refine ex_iload_n dX3_readNot_77 rfl rfl ?_
              refine ex_iadd (z := nI (20000 + (tk t q.1))) dX3_readNot_78 rfl (nI_add 20000 (tk t q.1)) ?_
              refine ex_callV (a := 0) (rest := []) dX3_readNot_79 rfl qp_2_62 rfl rfl rfl rfl rfl (Nat.le_of_ble_eq_true rfl) (hO4) (by omega) ?_
              show Ex (qm_layT ++ ext) _ mX3_readNot 82 [some (.ref 0), some (.int (nI o)), some (.int (nI (tk t q.1)))] [] σ4 _ _
              exact ex_vret dX3_readNot_82 rfl rfl rfl
          | inr q2 =>
            rw [e2] at hP3
            obtain ⟨k1, k2, k3⟩ := GP_le ht hgS e2 (n := 1) (by omega)
            obtain ⟨σ4, hO4, hP4, hs4⟩ := addR (ext := ext) hP3 (by omega) (20000 + tk t q.1)
            refine ⟨σ4, ?_, hP4, hs1.tr ((hs2.wid (by omega) (by omega)).tr (hs3.tr hs4))⟩
            refine Ok.of (ls := [some (.ref 0), some (.int (nI o)), none]) (Nat.le_of_ble_eq_true rfl) rfl ?_
            rcases c60 with c60 | c60
            · refine ex_aload_n dX3_readNot_0 rfl rfl ?_
              refine ex_getI (s := 4) (x := nI (tk t i)) dX3_readNot_1 rfl qp_2_50 rfl rfl (h.2.1.2.1) ?_
              refine ex_bipush (x := 9) dX3_readNot_4 rfl rfl ?_
              refine ex_icmp_ne (q := 36) (q2 := 9) dX3_readNot_6 rfl rfl (fun _ => ?_) (fun hh => absurd (fun zz => absurd ((nI_eq (a := (tk t i)) (b := 9) (by omega) (by omega)).mp zz) (by omega)) hh)
              refine ex_aload_n dX3_readNot_36 rfl rfl ?_
              refine ex_iload_n dX3_readNot_37 rfl rfl ?_
              refine ex_callV (a := 0) (rest := []) dX3_readNot_38 rfl qp_2_72 rfl rfl rfl rfl rfl (Nat.le_of_ble_eq_true rfl) (hO1) (by omega) ?_
              show Ex (qm_layT ++ ext) _ mX3_readNot 41 [some (.ref 0), some (.int (nI o)), none] [] σ1 _ _
              refine ex_aload_n dX3_readNot_41 rfl rfl ?_
              refine ex_getI (s := 4) (x := nI (tk t q.1)) dX3_readNot_42 rfl qp_2_50 rfl rfl (hP1.2.1.2.1) ?_
              refine ex_bipush (x := 60) dX3_readNot_45 rfl rfl ?_
              refine ex_icmp_eq (q := 59) (q2 := 50) dX3_readNot_47 rfl rfl (fun _ => ?_) (fun hh => absurd (congrArg nI (show (tk t q.1) = 60 by omega)) hh)
              refine ex_aload_n dX3_readNot_59 rfl rfl ?_
              refine ex_getI (s := 4) (x := nI (tk t q.1)) dX3_readNot_60 rfl qp_2_50 rfl rfl (hP1.2.1.2.1) ?_
              refine ex_istore_n (ls' := [some (.ref 0), some (.int (nI o)), some (.int (nI (tk t q.1)))]) dX3_readNot_63 rfl (Nat.le_of_ble_eq_true rfl) rfl rfl ?_
              refine ex_aload_n dX3_readNot_64 rfl rfl ?_
              refine ex_callV (a := 0) (rest := []) dX3_readNot_65 rfl qp_2_40 rfl rfl rfl rfl rfl (Nat.le_of_ble_eq_true rfl) (hO2) (by omega) ?_
              show Ex (qm_layT ++ ext) _ mX3_readNot 68 [some (.ref 0), some (.int (nI o)), some (.int (nI (tk t q.1)))] [] σ2 _ _
              refine ex_aload_n dX3_readNot_68 rfl rfl ?_
              refine ex_iload_n dX3_readNot_69 rfl rfl ?_
              refine ex_callV (a := 0) (rest := []) dX3_readNot_70 rfl qp_2_72 rfl rfl rfl rfl rfl (Nat.le_of_ble_eq_true rfl) (hO3) (by omega) ?_
              show Ex (qm_layT ++ ext) _ mX3_readNot 73 [some (.ref 0), some (.int (nI o)), some (.int (nI (tk t q.1)))] [] σ3 _ _
              refine ex_aload_n dX3_readNot_73 rfl rfl ?_
              refine ex_sipush (x := 20000) dX3_readNot_74 rfl rfl ?_
              refine ex_iload_n dX3_readNot_77 rfl rfl ?_
              refine ex_iadd (z := nI (20000 + (tk t q.1))) dX3_readNot_78 rfl (nI_add 20000 (tk t q.1)) ?_
              refine ex_callV (a := 0) (rest := []) dX3_readNot_79 rfl qp_2_62 rfl rfl rfl rfl rfl (Nat.le_of_ble_eq_true rfl) (hO4) (by omega) ?_
              show Ex (qm_layT ++ ext) _ mX3_readNot 82 [some (.ref 0), some (.int (nI o)), some (.int (nI (tk t q.1)))] [] σ4 _ _
              exact ex_vret dX3_readNot_82 rfl rfl rfl
            · refine ex_aload_n dX3_readNot_0 rfl rfl ?_
              refine ex_getI (s := 4) (x := nI (tk t i)) dX3_readNot_1 rfl qp_2_50 rfl rfl (h.2.1.2.1) ?_
              refine ex_bipush (x := 9) dX3_readNot_4 rfl rfl ?_
              refine ex_icmp_ne (q := 36) (q2 := 9) dX3_readNot_6 rfl rfl (fun _ => ?_) (fun hh => absurd (fun zz => absurd ((nI_eq (a := (tk t i)) (b := 9) (by omega) (by omega)).mp zz) (by omega)) hh)
              refine ex_aload_n dX3_readNot_36 rfl rfl ?_
              refine ex_iload_n dX3_readNot_37 rfl rfl ?_
              refine ex_callV (a := 0) (rest := []) dX3_readNot_38 rfl qp_2_72 rfl rfl rfl rfl rfl (Nat.le_of_ble_eq_true rfl) (hO1) (by omega) ?_
              show Ex (qm_layT ++ ext) _ mX3_readNot 41 [some (.ref 0), some (.int (nI o)), none] [] σ1 _ _
              refine ex_aload_n dX3_readNot_41 rfl rfl ?_
              refine ex_getI (s := 4) (x := nI (tk t q.1)) dX3_readNot_42 rfl qp_2_50 rfl rfl (hP1.2.1.2.1) ?_
              refine ex_bipush (x := 60) dX3_readNot_45 rfl rfl ?_
              refine ex_icmp_eq (q := 59) (q2 := 50) dX3_readNot_47 rfl rfl (fun hh => absurd hh (fun zz => absurd ((nI_eq (a := (tk t q.1)) (b := 60) (by omega) (by omega)).mp zz) (by omega))) (fun _ => ?_)
              refine ex_aload_n dX3_readNot_50 rfl rfl ?_
              refine ex_getI (s := 4) (x := nI (tk t q.1)) dX3_readNot_51 rfl qp_2_50 rfl rfl (hP1.2.1.2.1) ?_
              refine ex_bipush (x := 61) dX3_readNot_54 rfl rfl ?_
              refine ex_icmp_ne (q := 82) (q2 := 59) dX3_readNot_56 rfl rfl (fun hh => absurd hh (fun zz => zz (congrArg nI (show (tk t q.1) = 61 by omega)))) (fun _ => ?_)
              refine ex_aload_n dX3_readNot_59 rfl rfl ?_
              refine ex_getI (s := 4) (x := nI (tk t q.1)) dX3_readNot_60 rfl qp_2_50 rfl rfl (hP1.2.1.2.1) ?_
              refine ex_istore_n (ls' := [some (.ref 0), some (.int (nI o)), some (.int (nI (tk t q.1)))]) dX3_readNot_63 rfl (Nat.le_of_ble_eq_true rfl) rfl rfl ?_
              refine ex_aload_n dX3_readNot_64 rfl rfl ?_
              refine ex_callV (a := 0) (rest := []) dX3_readNot_65 rfl qp_2_40 rfl rfl rfl rfl rfl (Nat.le_of_ble_eq_true rfl) (hO2) (by omega) ?_
              show Ex (qm_layT ++ ext) _ mX3_readNot 68 [some (.ref 0), some (.int (nI o)), some (.int (nI (tk t q.1)))] [] σ2 _ _
              refine ex_aload_n dX3_readNot_68 rfl rfl ?_
              refine ex_iload_n dX3_readNot_69 rfl rfl ?_
              refine ex_callV (a := 0) (rest := []) dX3_readNot_70 rfl qp_2_72 rfl rfl rfl rfl rfl (Nat.le_of_ble_eq_true rfl) (hO3) (by omega) ?_
              show Ex (qm_layT ++ ext) _ mX3_readNot 73 [some (.ref 0), some (.int (nI o)), some (.int (nI (tk t q.1)))] [] σ3 _ _
              refine ex_aload_n dX3_readNot_73 rfl rfl ?_
              refine ex_sipush (x := 20000) dX3_readNot_74 rfl rfl ?_
              refine ex_iload_n dX3_readNot_77 rfl rfl ?_
              refine ex_iadd (z := nI (20000 + (tk t q.1))) dX3_readNot_78 rfl (nI_add 20000 (tk t q.1)) ?_
              refine ex_callV (a := 0) (rest := []) dX3_readNot_79 rfl qp_2_62 rfl rfl rfl rfl rfl (Nat.le_of_ble_eq_true rfl) (hO4) (by omega) ?_
              show Ex (qm_layT ++ ext) _ mX3_readNot 82 [some (.ref 0), some (.int (nI o)), some (.int (nI (tk t q.1)))] [] σ4 _ _
              exact ex_vret dX3_readNot_82 rfl rfl rfl
        · rw [if_neg cC]
          have c60 : ¬ tk t q.1 = 60 ∧ ¬ tk t q.1 = 61 := ⟨fun z => cC (by rw [z]; rfl), fun z => cC (by rw [z]; rfl)⟩
          refine ⟨σ1, ?_, hP1, hs1⟩
          refine Ok.of (ls := [some (.ref 0), some (.int (nI o)), none]) (Nat.le_of_ble_eq_true rfl) rfl ?_
          refine ex_aload_n dX3_readNot_0 rfl rfl ?_
          refine ex_getI (s := 4) (x := nI (tk t i)) dX3_readNot_1 rfl qp_2_50 rfl rfl (h.2.1.2.1) ?_
          refine ex_bipush (x := 9) dX3_readNot_4 rfl rfl ?_
          refine ex_icmp_ne (q := 36) (q2 := 9) dX3_readNot_6 rfl rfl (fun _ => ?_) (fun hh => absurd (fun zz => absurd ((nI_eq (a := (tk t i)) (b := 9) (by omega) (by omega)).mp zz) (by omega)) hh)
          refine ex_aload_n dX3_readNot_36 rfl rfl ?_
          refine ex_iload_n dX3_readNot_37 rfl rfl ?_
          refine ex_callV (a := 0) (rest := []) dX3_readNot_38 rfl qp_2_72 rfl rfl rfl rfl rfl (Nat.le_of_ble_eq_true rfl) (hO1) (by omega) ?_
          show Ex (qm_layT ++ ext) _ mX3_readNot 41 [some (.ref 0), some (.int (nI o)), none] [] σ1 _ _
          refine ex_aload_n dX3_readNot_41 rfl rfl ?_
          refine ex_getI (s := 4) (x := nI (tk t q.1)) dX3_readNot_42 rfl qp_2_50 rfl rfl (hP1.2.1.2.1) ?_
          refine ex_bipush (x := 60) dX3_readNot_45 rfl rfl ?_
          refine ex_icmp_eq (q := 59) (q2 := 50) dX3_readNot_47 rfl rfl (fun hh => absurd hh (fun zz => c60.1 ((nI_eq (by omega) (by decide)).mp zz))) (fun _ => ?_)
          refine ex_aload_n dX3_readNot_50 rfl rfl ?_
          refine ex_getI (s := 4) (x := nI (tk t q.1)) dX3_readNot_51 rfl qp_2_50 rfl rfl (hP1.2.1.2.1) ?_
          refine ex_bipush (x := 61) dX3_readNot_54 rfl rfl ?_
          refine ex_icmp_ne (q := 82) (q2 := 59) dX3_readNot_56 rfl rfl (fun _ => ?_) (fun hh => absurd (fun zz => c60.2 ((nI_eq (by omega) (by decide)).mp zz)) hh)
          exact ex_vret dX3_readNot_82 rfl rfl rfl
  · obtain ⟨σ1, hO1, hF1, hs1⟩ := hS.2 e σ h
    refine ⟨σ1, ?_, hF1, hs1⟩
    refine Ok.of (ls := [some (.ref 0), some (.int (nI o)), none]) (Nat.le_of_ble_eq_true rfl) rfl ?_
    refine ex_aload_n dX3_readNot_0 rfl rfl ?_
    refine ex_getI (s := 4) (x := 3) dX3_readNot_1 rfl qp_2_50 rfl rfl (h.1) ?_
    refine ex_bipush (x := 9) dX3_readNot_4 rfl rfl ?_
    refine ex_icmp_ne (q := 36) (q2 := 9) dX3_readNot_6 rfl rfl (fun _ => ?_) (fun hh => absurd (by decide) hh)
    refine ex_aload_n dX3_readNot_36 rfl rfl ?_
    refine ex_iload_n dX3_readNot_37 rfl rfl ?_
    refine ex_callV (a := 0) (rest := []) dX3_readNot_38 rfl qp_2_72 rfl rfl rfl rfl rfl (Nat.le_of_ble_eq_true rfl) (hO1) (by omega) ?_
    show Ex (qm_layT ++ ext) _ mX3_readNot 41 [some (.ref 0), some (.int (nI o)), none] [] σ1 _ _
    refine ex_aload_n dX3_readNot_41 rfl rfl ?_
    refine ex_getI (s := 4) (x := 3) dX3_readNot_42 rfl qp_2_50 rfl rfl (hF1.1) ?_
    refine ex_bipush (x := 60) dX3_readNot_45 rfl rfl ?_
    refine ex_icmp_eq (q := 59) (q2 := 50) dX3_readNot_47 rfl rfl (fun hh => absurd hh (by decide)) (fun _ => ?_)
    refine ex_aload_n dX3_readNot_50 rfl rfl ?_
    refine ex_getI (s := 4) (x := 3) dX3_readNot_51 rfl qp_2_50 rfl rfl (hF1.1) ?_
    refine ex_bipush (x := 61) dX3_readNot_54 rfl rfl ?_
    refine ex_icmp_ne (q := 82) (q2 := 59) dX3_readNot_56 rfl rfl (fun _ => ?_) (fun hh => absurd (by decide) hh)
    exact ex_vret dX3_readNot_82 rfl rfl rfl

theorem hAll {t : gt_T} (hk : gt_ok t) {ext : List qm_LE} : ∀ (m o : Nat), o + m = 5 → OwC t ext (7 * m + 8) mX3_readOne o (pOne t m) ∧ OwC t ext (7 * m + 11) mX3_readNot o (pNot t m) ∧ OwC t ext (7 * m + 13) mX3_readOr o (pOr t m) := by
  intro m
  induction m with
  | zero =>
    intro o ho
    have ho5 : o = 5 := by omega
    subst ho5
    have g := GP_all t 0 (by decide)
    have h1 := hOne0 hk (ext := ext)
    have h2 := hTerm hk h1 g.1 (by decide)
    have h3 := hSum hk h2 (GP_seq t g.1 op_M) (by decide)
    have h4 := hNot0 hk h3 (by decide)
    have h5 := hAnd hk h4 g.2.1 (by decide)
    exact ⟨h1, h4, hOr hk h5 (GP_seq t g.2.1 op_A) (by decide)⟩
  | succ m ih =>
    intro o ho
    obtain ⟨i1, i2, i3⟩ := ih (o + 1) (by omega)
    have g := GP_all t (m + 1) (by omega)
    have h1 : OwC t ext (7 * (m + 1) + 8) mX3_readOne o (pOne t (m + 1)) := hOneS hk ho (by omega) (by rw [show 7 * (m + 1) + 8 - 7 = 7 * m + 8 by omega]; exact i1) (by rw [show 7 * (m + 1) + 8 - 2 = 7 * m + 13 by omega]; exact i3)
    have h2 := hTerm hk h1 g.1 (by omega)
    have h3 := hSum hk h2 (GP_seq t g.1 op_M) (by omega)
    have h4 := hNotS hk ho h3 (by omega) (by rw [show 7 * (m + 1) + 8 + 1 + 1 - 6 = 7 * m + 11 by omega]; exact i2)
    have h5 := hAnd hk h4 g.2.1 (by omega)
    exact ⟨h1, h4, hOr hk h5 (GP_seq t g.2.1 op_A) (by omega)⟩
