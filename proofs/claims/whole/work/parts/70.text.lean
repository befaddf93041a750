/-! ===== text, on both sides ===== -/
def sx (n : Nat) (σ σ' : qm_St) : Prop := (∀ s, (s < 29 ∨ (31 ≤ s ∧ s < 36) ∨ 43 ≤ s) → qm_rI σ' s = qm_rI σ s) ∧ (∀ j, j ≠ 48 → j ≠ 49 → j ≠ 56 → ∀ k, qm_rF σ' j k = qm_rF σ j k) ∧ (∀ q, q < 200 * n → qm_rF σ' 48 q = qm_rF σ 48 q) ∧ ∀ q, q < 4 * n → qm_rF σ' 49 q = qm_rF σ 49 q
theorem sx.rf (n : Nat) (σ : qm_St) : sx n σ σ := ⟨fun _ _ => rfl, fun _ _ _ _ _ => rfl, fun _ _ => rfl, fun _ _ => rfl⟩
theorem sx.tr {n : Nat} {a b c : qm_St} (h : sx n a b) (g : sx n b c) : sx n a c := ⟨fun s hs => (g.1 s hs).trans (h.1 s hs), fun j h1 h2 h3 k => (g.2.1 j h1 h2 h3 k).trans (h.2.1 j h1 h2 h3 k), fun q hq => (g.2.2.1 q hq).trans (h.2.2.1 q hq), fun q hq => (g.2.2.2 q hq).trans (h.2.2.2 q hq)⟩
theorem sx.of {n : Nat} {a b : qm_St} (h : sq 36 n a b) : sx n a b := ⟨fun s hs => h.1 s (by omega), fun j h1 _ h3 k => h.2.1 j h1 h3 k, fun q hq => h.2.2 q hq, fun q _ => h.2.1 49 (by decide) (by decide) q⟩
theorem sx.w49 {n : Nat} {a b : qm_St} (h : sx n a b) {i : Nat} (hi : 4 * n ≤ i) (v : Int32) : sx n a (qm_wF b 49 i v) := ⟨h.1, fun j h1 h2 h3 k => by rw [rF_ne (Or.inl h2)]; exact h.2.1 j h1 h2 h3 k, fun q hq => by rw [rF_ne (Or.inl (by decide))]; exact h.2.2.1 q hq, fun q hq => by rw [rF_ne (Or.inr (by omega))]; exact h.2.2.2 q hq⟩
theorem sx.wI {n : Nat} {a b : qm_St} (h : sx n a b) {s : Nat} (v : Int32) (hs : s = 29 ∨ s = 30 ∨ (36 ≤ s ∧ s < 43)) : sx n a (qm_wI b s v) := ⟨fun t ht => by rw [rI_wI, if_neg (by omega)]; exact h.1 t ht, h.2.1, h.2.2.1, h.2.2.2⟩
theorem sx.two {n : Nat} {σ σ' : qm_St} (h : sx n σ σ') : ∃ σ1, sm σ σ1 36 43 48 50 ∧ sm σ1 σ' 29 31 56 57 := by
  refine ⟨((fun s => if s < 36 then σ.1 s else σ'.1 s), fun j => if j < 50 then σ'.2 j else σ.2 j), ⟨fun s hs => ?_, fun j hj k => ?_⟩, fun s hs => ?_, fun j hj k => ?_⟩
  · show (if s < 36 then σ.1 s else σ'.1 s) = σ.1 s
    by_cases c : s < 36
    · rw [if_pos c]
    · rw [if_neg c]; exact h.1 s (by omega)
  · show (if j < 50 then σ'.2 j else σ.2 j) k = σ.2 j k
    by_cases c : j < 50
    · rw [if_pos c]; exact h.2.1 j (by omega) (by omega) (by omega) k
    · rw [if_neg c]
  · show σ'.1 s = if s < 36 then σ.1 s else σ'.1 s
    by_cases c : s < 36
    · rw [if_pos c]; exact h.1 s (by omega)
    · rw [if_neg c]
  · show σ'.2 j k = (if j < 50 then σ'.2 j else σ.2 j) k
    by_cases c : j < 50
    · rw [if_pos c]
    · rw [if_neg c]; exact h.2.1 j (by omega) (by omega) (by omega) k
/-- what stays of the other side's state -/
theorem sx.mg {T : tn_T} {X : gx_T} {P : gt_T} {Im : gi_T} {S : gs_T} {σ σ' : qm_St} (h : sx (gx_n X) σ σ') (hM : MG σ (T, X, P, Im, S)) : MR σ' T ∧ IM σ' Im ∧ SM σ' S ∧ KW σ' := by
  obtain ⟨σ1, g1, g2⟩ := h.two
  exact ⟨⟨(hM.1.1.sm g1 (by omega) (by omega)).sm g2 (by omega) (by omega), (hM.1.2.sm g1 (by omega) (by omega)).sm g2 (by omega) (by omega)⟩, (hM.2.2.2.1.sm g1 (by omega) (by omega)).sm g2 (by omega) (by omega), (hM.2.2.2.2.1.sm g1 (by omega)).sm g2 (by omega), (hM.2.2.2.2.2.sm g1 (by omega)).sm g2 (by omega)⟩
theorem sx.sm {n : Nat} {σ σ' : qm_St} (h : sx n σ σ') : sm σ σ' 27 46 42 62 := ⟨fun s hs => h.1 s (by omega), fun j hj k => h.2.1 j (by omega) (by omega) (by omega) k⟩
theorem RMN.sx49 {t : gt_T} {n : Nat} {σ : qm_St} {i : Nat} {c : List Nat} (h : RMN t n σ i c) (k : Nat) (v : Int32) : RMN t n (qm_wF σ 49 k v) i c := ⟨⟨h.1.1, fun i hi => by rw [rF_ne (Or.inl (by decide))]; exact h.1.2 i hi⟩, fun i hi => by rw [rF_ne (Or.inl (by decide))]; exact h.2.1 i hi, h.2.2.1, h.2.2.2.1, h.2.2.2.2.1, fun q hq => by rw [rF_ne (Or.inl (by decide))]; exact h.2.2.2.2.2 q hq⟩
theorem nextT {t : gt_T} (hk : gt_ok t) {n : Nat} {σ : qm_St} {i : Nat} {c : List Nat} (h : RMN t n σ i c) : ∃ σ', Ok qm_lay 1 mX9_next [.ref 55] σ none σ' ∧ LXM σ' (tks t i) ∧ (tk t i ≠ 3 → RMN t n σ' (i + 1) c) ∧ qm_rI σ' 30 = nI n ∧ qm_rI σ' 42 = nI c.length ∧ (∀ k, k < c.length → qm_rF σ' 48 (200 * n + k) = nI (gx_m (c.getD k 0))) ∧ sq 36 n σ σ' ∧ sm σ σ' 36 40 0 0 := by
  obtain ⟨σ1, hO, hL, hs⟩ := k_next hk h.1 h.2.1 (tpo_le t i) h.2.2.1
  rw [← tks_lx] at hL
  have g : sq 36 n σ σ1 := sq.of hs (Nat.le_refl _)
  have e30 : qm_rI σ1 30 = nI n := by rw [hs.1 _ (by omega)]; exact h.2.2.2.1
  have e42 : qm_rI σ1 42 = nI c.length := by rw [hs.1 _ (by omega)]; exact h.2.2.2.2.1
  have e48 : ∀ k, k < c.length → qm_rF σ1 48 (200 * n + k) = nI (gx_m (c.getD k 0)) := fun k hk2 => by rw [hs.2 48 (by omega)]; exact h.2.2.2.2.2 k hk2
  exact ⟨σ1, hO, hL, fun h3 => ⟨h.1.sq g (by omega), h.2.1.sq g, hL.2.2.2.2 h3, e30, e42, e48⟩, e30, e42, e48, g, hs⟩
def PTM (t : gt_T) (n : Nat) (σ : qm_St) (r : tR) : Prop := match r with
  | .inl e => qm_rI σ 37 = nI (tpl t e)
  | .inr q => RMN t n σ q.1 q.2

set_option maxRecDepth 8000 in
set_option maxHeartbeats 2000000 in
theorem l_txR {t : gt_T} (hk : gt_ok t) {n : Nat} (hn : n < 6) {k : Nat} (hk3 : k < 3) {σ : qm_St} {i : Nat} {cs : List Nat} (h : RMN t n σ i cs) (hc : cs.length ≤ i) (hi : i ≤ 160) : ∃ σ', (∀ v τ, Ex qm_lay 4 mX9_text 26 [some (.ref 55), some (.int (b2i (okv (pP t k i cs)))), some (.int (nI (k + 1)))] [] σ' v τ → Ex qm_lay 4 mX9_text 26 [some (.ref 55), some (.int 1), some (.int (nI k))] [] σ v τ) ∧ PTM t n σ' (pP t k i cs) ∧ qm_rI σ' 30 = nI n ∧ qm_rF σ' 49 (4 * n + k) = nI cs.length ∧ (∀ q, q ≠ 4 * n + k → qm_rF σ' 49 q = qm_rF σ 49 q) ∧ sx n σ σ' := by
  have h160 := hk.1
  have t256 := tk_lt hk i
  obtain ⟨-, -, -, -, -, -, -, q3, -⟩ := rtk_k (tk t i) t256
  obtain ⟨σ1, hO1, hL, hR, h30, h42, h48, g1, -⟩ := nextT hk h
  have h38 : qm_rI σ1 38 = rtk (tk t i) := hL.2.1
  have h37 : qm_rI σ1 37 = nI (tpl t i) := hL.1
  have gw : sx n σ (qm_wF σ1 49 (4 * n + k) (nI cs.length)) := (sx.of g1).w49 (by omega) _
  have e49 : ∀ q, q ≠ 4 * n + k → qm_rF (qm_wF σ1 49 (4 * n + k) (nI cs.length)) 49 q = qm_rF σ 49 q := fun q hq => by rw [rF_ne (Or.inr hq)]; exact g1.2.1 49 (by decide) (by decide) q
  by_cases c1 : tk t i = 4 + k
  · have h39 : qm_rI σ1 39 = nI (tk t i - 4) := hL.2.2.2.1 (show 4 ≤ tk t i ∧ tk t i < 7 by omega)
    have k3 := q3.mpr (show 4 ≤ tk t i ∧ tk t i < 7 by omega)
    have hi160 := (tk_n0 (t := t) (i := i) (by omega)).2
    have h2 := (hR (by omega)).sx49 (4 * n + k) (nI cs.length)
    obtain ⟨σ3, hO3, hP3, g3⟩ := k_eRead hk hn h2 (by omega) (by omega)
    have epP : pP t k i cs = pQ t (i + 1) cs := if_pos c1
    have e30 : qm_rI σ3 30 = nI n := (g3.1 _ (by omega)).trans h30
    have f49 : qm_rF σ3 49 (4 * n + k) = nI cs.length := (g3.2.1 49 (by decide) (by decide) _).trans rF_eq
    refine ⟨σ3, fun v τ hz => ?_, ?_, e30, f49, fun q hq => (g3.2.1 49 (by decide) (by decide) _).trans (e49 q hq), gw.tr (sx.of g3)⟩
    · have eo : okv (pP t k i cs) = okv (pE t (i + 1) cs) := by
        rw [epP]; unfold pQ; cases pE t (i + 1) cs <;> rfl
      rw [eo] at hz
      cases e : pE t (i + 1) cs with
      | inl e1 =>
        rw [e] at hO3 hz
        refine ex_iload_n dX9_text_26 rfl rfl ?_
        refine ex_iconst (x := 3) dX9_text_27 rfl rfl ?_
        refine ex_icmp_ge (q := 101) (q2 := 31) dX9_text_28 rfl rfl (fun hh => absurd hh (nI_ge (a := k) (b := 3) (by omega) (by omega))) (fun _ => ?_)
        refine ex_iload_n dX9_text_31 rfl rfl ?_
        refine ex_if_eq (q := 101) (q2 := 35) dX9_text_32 rfl rfl (fun hh => absurd hh (by decide)) (fun _ => ?_)
        refine ex_aload_n dX9_text_35 rfl rfl ?_
        refine ex_callV (a := 55) (rest := []) dX9_text_36 rfl qp_8_152 rfl rfl rfl rfl rfl (Nat.le_of_ble_eq_true rfl) (hO1) (Nat.le_of_ble_eq_true rfl) ?_
        show Ex qm_lay _ mX9_text 39 [some (.ref 55), some (.int 1), some (.int (nI k))] [] σ1 _ _
        refine ex_aload_n dX9_text_39 rfl rfl ?_
        refine ex_getI (s := 38) (x := rtk (tk t i)) dX9_text_40 rfl qp_8_120 rfl rfl (h38) ?_
        refine ex_iconst (x := 3) dX9_text_43 rfl rfl ?_
        refine ex_icmp_ne (q := 59) (q2 := 47) dX9_text_44 rfl rfl (fun hh => absurd hh (fun zz => zz k3)) (fun _ => ?_)
        refine ex_aload_n dX9_text_47 rfl rfl ?_
        refine ex_getI (s := 39) (x := nI (tk t i - 4)) dX9_text_48 rfl qp_8_123 rfl rfl (h39) ?_
        refine ex_iload_n dX9_text_51 rfl rfl ?_
        refine ex_icmp_ne (q := 59) (q2 := 55) dX9_text_52 rfl rfl (fun hh => absurd hh (fun zz => zz (congrArg nI (show (tk t i - 4) = k by omega)))) (fun _ => ?_)
        refine ex_iconst (x := 1) dX9_text_55 rfl rfl ?_
        refine ex_goto (q := 60) dX9_text_56 rfl ?_
        refine ex_istore_n (ls' := [some (.ref 55), some (.int 1), some (.int (nI k))]) dX9_text_60 rfl (Nat.le_of_ble_eq_true rfl) rfl rfl ?_
        refine ex_aload_n dX9_text_61 rfl rfl ?_
        refine ex_getR (b := 63) dX9_text_62 rfl qp_8_31 rfl rfl ?_
        refine ex_iconst (x := 4) dX9_text_65 rfl rfl ?_
        refine ex_aload_n dX9_text_66 rfl rfl ?_
        refine ex_getI (s := 30) (x := nI n) dX9_text_67 rfl qp_8_105 rfl rfl (h30) ?_
        refine ex_imul (z := nI (4 * n)) dX9_text_70 rfl (pk_mul 4 n) ?_
        refine ex_iload_n dX9_text_71 rfl rfl ?_
        refine ex_iadd (z := nI ((4 * n) + k)) dX9_text_72 rfl (nI_add (4 * n) k) ?_
        refine ex_aload_n dX9_text_73 rfl rfl ?_
        refine ex_getI (s := 42) (x := nI cs.length) dX9_text_74 rfl qp_8_130 rfl rfl (h42) ?_
        refine ex_iastore (k := (4 * n) + k) (σ' := qm_wF σ1 49 ((4 * n) + k) (nI cs.length)) dX9_text_77 rfl rfl (rfl) (by omega) (by decide) rfl ?_
        refine ex_iload_n dX9_text_78 rfl rfl ?_
        refine ex_if_eq (q := 93) (q2 := 82) dX9_text_79 rfl rfl (fun hh => absurd hh (by decide)) (fun _ => ?_)
        refine ex_aload_n dX9_text_82 rfl rfl ?_
        refine ex_callV (a := 55) (rest := []) dX9_text_83 rfl qp_8_165 rfl rfl rfl rfl rfl (Nat.le_of_ble_eq_true rfl) (hO3) (Nat.le_of_ble_eq_true rfl) ?_
        show Ex qm_lay _ mX9_text 86 [some (.ref 55), some (.int 1), some (.int (nI k))] [.int 0] σ3 _ _
        refine ex_if_eq (q := 93) (q2 := 89) dX9_text_86 rfl rfl (fun _ => ?_) (fun hh => absurd (by decide) hh)
        refine ex_iconst (x := 0) dX9_text_93 rfl rfl ?_
        refine ex_istore_n (ls' := [some (.ref 55), some (.int 0), some (.int (nI k))]) dX9_text_94 rfl (Nat.le_of_ble_eq_true rfl) rfl rfl ?_
        refine ex_iinc (y := nI (k + 1)) (ls' := [some (.ref 55), some (.int 0), some (.int (nI (k + 1)))]) dX9_text_95 rfl rfl rfl (nI_add k 1) rfl ?_
        refine ex_goto (q := 26) dX9_text_98 rfl ?_
        exact hz
      | inr q =>
        rw [e] at hO3 hz
        refine ex_iload_n dX9_text_26 rfl rfl ?_
        refine ex_iconst (x := 3) dX9_text_27 rfl rfl ?_
        refine ex_icmp_ge (q := 101) (q2 := 31) dX9_text_28 rfl rfl (fun hh => absurd hh (nI_ge (a := k) (b := 3) (by omega) (by omega))) (fun _ => ?_)
        refine ex_iload_n dX9_text_31 rfl rfl ?_
        refine ex_if_eq (q := 101) (q2 := 35) dX9_text_32 rfl rfl (fun hh => absurd hh (by decide)) (fun _ => ?_)
        refine ex_aload_n dX9_text_35 rfl rfl ?_
        refine ex_callV (a := 55) (rest := []) dX9_text_36 rfl qp_8_152 rfl rfl rfl rfl rfl (Nat.le_of_ble_eq_true rfl) (hO1) (Nat.le_of_ble_eq_true rfl) ?_
        show Ex qm_lay _ mX9_text 39 [some (.ref 55), some (.int 1), some (.int (nI k))] [] σ1 _ _
        refine ex_aload_n dX9_text_39 rfl rfl ?_
        refine ex_getI (s := 38) (x := rtk (tk t i)) dX9_text_40 rfl qp_8_120 rfl rfl (h38) ?_
        refine ex_iconst (x := 3) dX9_text_43 rfl rfl ?_
        refine ex_icmp_ne (q := 59) (q2 := 47) dX9_text_44 rfl rfl (fun hh => absurd hh (fun zz => zz k3)) (fun _ => ?_)
        refine ex_aload_n dX9_text_47 rfl rfl ?_
        refine ex_getI (s := 39) (x := nI (tk t i - 4)) dX9_text_48 rfl qp_8_123 rfl rfl (h39) ?_
        refine ex_iload_n dX9_text_51 rfl rfl ?_
        refine ex_icmp_ne (q := 59) (q2 := 55) dX9_text_52 rfl rfl (fun hh => absurd hh (fun zz => zz (congrArg nI (show (tk t i - 4) = k by omega)))) (fun _ => ?_)
        refine ex_iconst (x := 1) dX9_text_55 rfl rfl ?_
        refine ex_goto (q := 60) dX9_text_56 rfl ?_
        refine ex_istore_n (ls' := [some (.ref 55), some (.int 1), some (.int (nI k))]) dX9_text_60 rfl (Nat.le_of_ble_eq_true rfl) rfl rfl ?_
        refine ex_aload_n dX9_text_61 rfl rfl ?_
        refine ex_getR (b := 63) dX9_text_62 rfl qp_8_31 rfl rfl ?_
        refine ex_iconst (x := 4) dX9_text_65 rfl rfl ?_
        refine ex_aload_n dX9_text_66 rfl rfl ?_
        refine ex_getI (s := 30) (x := nI n) dX9_text_67 rfl qp_8_105 rfl rfl (h30) ?_
        refine ex_imul (z := nI (4 * n)) dX9_text_70 rfl (pk_mul 4 n) ?_
        refine ex_iload_n dX9_text_71 rfl rfl ?_
        refine ex_iadd (z := nI ((4 * n) + k)) dX9_text_72 rfl (nI_add (4 * n) k) ?_
        refine ex_aload_n dX9_text_73 rfl rfl ?_
        refine ex_getI (s := 42) (x := nI cs.length) dX9_text_74 rfl qp_8_130 rfl rfl (h42) ?_
        refine ex_iastore (k := (4 * n) + k) (σ' := qm_wF σ1 49 ((4 * n) + k) (nI cs.length)) dX9_text_77 rfl rfl (rfl) (by omega) (by decide) rfl ?_
        refine ex_iload_n dX9_text_78 rfl rfl ?_
        refine ex_if_eq (q := 93) (q2 := 82) dX9_text_79 rfl rfl (fun hh => absurd hh (by decide)) (fun _ => ?_)
        refine ex_aload_n dX9_text_82 rfl rfl ?_
        refine ex_callV (a := 55) (rest := []) dX9_text_83 rfl qp_8_165 rfl rfl rfl rfl rfl (Nat.le_of_ble_eq_true rfl) (hO3) (Nat.le_of_ble_eq_true rfl) ?_
        show Ex qm_lay _ mX9_text 86 [some (.ref 55), some (.int 1), some (.int (nI k))] [.int 1] σ3 _ _
        refine ex_if_eq (q := 93) (q2 := 89) dX9_text_86 rfl rfl (fun hh => absurd hh (by decide)) (fun _ => ?_)
        refine ex_iconst (x := 1) dX9_text_89 rfl rfl ?_
        refine ex_goto (q := 94) dX9_text_90 rfl ?_
        refine ex_istore_n (ls' := [some (.ref 55), some (.int 1), some (.int (nI k))]) dX9_text_94 rfl (Nat.le_of_ble_eq_true rfl) rfl rfl ?_
        refine ex_iinc (y := nI (k + 1)) (ls' := [some (.ref 55), some (.int 1), some (.int (nI (k + 1)))]) dX9_text_95 rfl rfl rfl (nI_add k 1) rfl ?_
        refine ex_goto (q := 26) dX9_text_98 rfl ?_
        exact hz
    · rw [epP]
      unfold pQ
      cases e : pE t (i + 1) cs with
      | inl e1 => rw [e] at hP3; exact hP3
      | inr q => rw [e] at hP3; exact hP3
  · have epP : pP t k i cs = .inl i := if_neg c1
    rw [epP]
    refine ⟨(qm_wF σ1 49 (4 * n + k) (nI cs.length)), fun v τ hz => ?_, h37, h30, rF_eq, e49, gw⟩
    by_cases c3 : 4 ≤ tk t i ∧ tk t i < 7
    · have k3 := q3.mpr c3
      have h39 : qm_rI σ1 39 = nI (tk t i - 4) := hL.2.2.2.1 c3
      refine ex_iload_n dX9_text_26 rfl rfl ?_
      refine ex_iconst (x := 3) dX9_text_27 rfl rfl ?_
      refine ex_icmp_ge (q := 101) (q2 := 31) dX9_text_28 rfl rfl (fun hh => absurd hh (nI_ge (a := k) (b := 3) (by omega) (by omega))) (fun _ => ?_)
      refine ex_iload_n dX9_text_31 rfl rfl ?_
      refine ex_if_eq (q := 101) (q2 := 35) dX9_text_32 rfl rfl (fun hh => absurd hh (by decide)) (fun _ => ?_)
      refine ex_aload_n dX9_text_35 rfl rfl ?_
      refine ex_callV (a := 55) (rest := []) dX9_text_36 rfl qp_8_152 rfl rfl rfl rfl rfl (Nat.le_of_ble_eq_true rfl) (hO1) (Nat.le_of_ble_eq_true rfl) ?_
      show Ex qm_lay _ mX9_text 39 [some (.ref 55), some (.int 1), some (.int (nI k))] [] σ1 _ _
      refine ex_aload_n dX9_text_39 rfl rfl ?_
      refine ex_getI (s := 38) (x := rtk (tk t i)) dX9_text_40 rfl qp_8_120 rfl rfl (h38) ?_
      refine ex_iconst (x := 3) dX9_text_43 rfl rfl ?_
      refine ex_icmp_ne (q := 59) (q2 := 47) dX9_text_44 rfl rfl (fun hh => absurd hh (fun zz => zz k3)) (fun _ => ?_)
      refine ex_aload_n dX9_text_47 rfl rfl ?_
      refine ex_getI (s := 39) (x := nI (tk t i - 4)) dX9_text_48 rfl qp_8_123 rfl rfl (h39) ?_
      refine ex_iload_n dX9_text_51 rfl rfl ?_
      refine ex_icmp_ne (q := 59) (q2 := 55) dX9_text_52 rfl rfl (fun _ => ?_) (fun hh => absurd (fun zz => absurd ((nI_eq (a := (tk t i - 4)) (b := k) (by omega) (by omega)).mp zz) (by omega)) hh)
      refine ex_iconst (x := 0) dX9_text_59 rfl rfl ?_
      refine ex_istore_n (ls' := [some (.ref 55), some (.int 0), some (.int (nI k))]) dX9_text_60 rfl (Nat.le_of_ble_eq_true rfl) rfl rfl ?_
      refine ex_aload_n dX9_text_61 rfl rfl ?_
      refine ex_getR (b := 63) dX9_text_62 rfl qp_8_31 rfl rfl ?_
      refine ex_iconst (x := 4) dX9_text_65 rfl rfl ?_
      refine ex_aload_n dX9_text_66 rfl rfl ?_
      refine ex_getI (s := 30) (x := nI n) dX9_text_67 rfl qp_8_105 rfl rfl (h30) ?_
      refine ex_imul (z := nI (4 * n)) dX9_text_70 rfl (pk_mul 4 n) ?_
      refine ex_iload_n dX9_text_71 rfl rfl ?_
      refine ex_iadd (z := nI ((4 * n) + k)) dX9_text_72 rfl (nI_add (4 * n) k) ?_
      refine ex_aload_n dX9_text_73 rfl rfl ?_
      refine ex_getI (s := 42) (x := nI cs.length) dX9_text_74 rfl qp_8_130 rfl rfl (h42) ?_
      refine ex_iastore (k := (4 * n) + k) (σ' := qm_wF σ1 49 ((4 * n) + k) (nI cs.length)) dX9_text_77 rfl rfl (rfl) (by omega) (by decide) rfl ?_
      refine ex_iload_n dX9_text_78 rfl rfl ?_
      refine ex_if_eq (q := 93) (q2 := 82) dX9_text_79 rfl rfl (fun _ => ?_) (fun hh => absurd (by decide) hh)
      refine ex_iconst (x := 0) dX9_text_93 rfl rfl ?_
      refine ex_istore_n (ls' := [some (.ref 55), some (.int 0), some (.int (nI k))]) dX9_text_94 rfl (Nat.le_of_ble_eq_true rfl) rfl rfl ?_
      refine ex_iinc (y := nI (k + 1)) (ls' := [some (.ref 55), some (.int 0), some (.int (nI (k + 1)))]) dX9_text_95 rfl rfl rfl (nI_add k 1) rfl ?_
      refine ex_goto (q := 26) dX9_text_98 rfl ?_
      exact hz
    · have k3 := mt q3.mp c3
      refine ex_iload_n dX9_text_26 rfl rfl ?_
      refine ex_iconst (x := 3) dX9_text_27 rfl rfl ?_
      refine ex_icmp_ge (q := 101) (q2 := 31) dX9_text_28 rfl rfl (fun hh => absurd hh (nI_ge (a := k) (b := 3) (by omega) (by omega))) (fun _ => ?_)
      refine ex_iload_n dX9_text_31 rfl rfl ?_
      refine ex_if_eq (q := 101) (q2 := 35) dX9_text_32 rfl rfl (fun hh => absurd hh (by decide)) (fun _ => ?_)
      refine ex_aload_n dX9_text_35 rfl rfl ?_
      refine ex_callV (a := 55) (rest := []) dX9_text_36 rfl qp_8_152 rfl rfl rfl rfl rfl (Nat.le_of_ble_eq_true rfl) (hO1) (Nat.le_of_ble_eq_true rfl) ?_
      show Ex qm_lay _ mX9_text 39 [some (.ref 55), some (.int 1), some (.int (nI k))] [] σ1 _ _
      refine ex_aload_n dX9_text_39 rfl rfl ?_
      refine ex_getI (s := 38) (x := rtk (tk t i)) dX9_text_40 rfl qp_8_120 rfl rfl (h38) ?_
      refine ex_iconst (x := 3) dX9_text_43 rfl rfl ?_
      refine ex_icmp_ne (q := 59) (q2 := 47) dX9_text_44 rfl rfl (fun _ => ?_) (fun hh => absurd (k3) hh)
      refine ex_iconst (x := 0) dX9_text_59 rfl rfl ?_
      refine ex_istore_n (ls' := [some (.ref 55), some (.int 0), some (.int (nI k))]) dX9_text_60 rfl (Nat.le_of_ble_eq_true rfl) rfl rfl ?_
      refine ex_aload_n dX9_text_61 rfl rfl ?_
      refine ex_getR (b := 63) dX9_text_62 rfl qp_8_31 rfl rfl ?_
      refine ex_iconst (x := 4) dX9_text_65 rfl rfl ?_
      refine ex_aload_n dX9_text_66 rfl rfl ?_
      refine ex_getI (s := 30) (x := nI n) dX9_text_67 rfl qp_8_105 rfl rfl (h30) ?_
      refine ex_imul (z := nI (4 * n)) dX9_text_70 rfl (pk_mul 4 n) ?_
      refine ex_iload_n dX9_text_71 rfl rfl ?_
      refine ex_iadd (z := nI ((4 * n) + k)) dX9_text_72 rfl (nI_add (4 * n) k) ?_
      refine ex_aload_n dX9_text_73 rfl rfl ?_
      refine ex_getI (s := 42) (x := nI cs.length) dX9_text_74 rfl qp_8_130 rfl rfl (h42) ?_
      refine ex_iastore (k := (4 * n) + k) (σ' := qm_wF σ1 49 ((4 * n) + k) (nI cs.length)) dX9_text_77 rfl rfl (rfl) (by omega) (by decide) rfl ?_
      refine ex_iload_n dX9_text_78 rfl rfl ?_
      refine ex_if_eq (q := 93) (q2 := 82) dX9_text_79 rfl rfl (fun _ => ?_) (fun hh => absurd (by decide) hh)
      refine ex_iconst (x := 0) dX9_text_93 rfl rfl ?_
      refine ex_istore_n (ls' := [some (.ref 55), some (.int 0), some (.int (nI k))]) dX9_text_94 rfl (Nat.le_of_ble_eq_true rfl) rfl rfl ?_
      refine ex_iinc (y := nI (k + 1)) (ls' := [some (.ref 55), some (.int 0), some (.int (nI (k + 1)))]) dX9_text_95 rfl rfl rfl (nI_add k 1) rfl ?_
      refine ex_goto (q := 26) dX9_text_98 rfl ?_
      exact hz

set_option maxRecDepth 8000 in
set_option maxHeartbeats 2000000 in
theorem l_tnF {t : gt_T} {n : Nat} (hn : n < 6) {k : Nat} (hk3 : k ≤ 3) {σ : qm_St} {e : Nat} (h30 : qm_rI σ 30 = nI n) (h37 : qm_rI σ 37 = nI (tpl t e)) : ∃ σ', Ex qm_lay 4 mX9_text 26 [some (.ref 55), some (.int 0), some (.int (nI k))] [] σ (some (.int ((-100) - nI (tpl t e)))) σ' ∧ qm_rI σ' 30 = nI n ∧ qm_rI σ' 29 = 0 ∧ sx n σ σ' := by
  refine ⟨qm_wI (qm_wF σ 49 (4 * n + 3) (qm_rI σ 42)) 29 0, ?_, h30, rfl, ((sx.rf n σ).w49 (by omega) _).wI _ (by omega)⟩
  refine ex_iload_n dX9_text_26 rfl rfl ?_
  refine ex_iconst (x := 3) dX9_text_27 rfl rfl ?_
  refine ex_icmp_ge (q := 101) (q2 := 31) dX9_text_28 rfl rfl (fun h28 => ?_) (fun h28 => ?_)
  · have n28 : 3 ≤ k := (nI_leI (a := 3) (b := k) (by omega) (by omega)).mp h28
    refine ex_iload_n dX9_text_101 rfl rfl ?_
    refine ex_if_eq (q := 122) (q2 := 105) dX9_text_102 rfl rfl (fun _ => ?_) (fun hh => absurd (by decide) hh)
    refine ex_aload_n dX9_text_122 rfl rfl ?_
    refine ex_getR (b := 63) dX9_text_123 rfl qp_8_31 rfl rfl ?_
    refine ex_iconst (x := 4) dX9_text_126 rfl rfl ?_
    refine ex_aload_n dX9_text_127 rfl rfl ?_
    refine ex_getI (s := 30) (x := nI n) dX9_text_128 rfl qp_8_105 rfl rfl (h30) ?_
    refine ex_imul (z := nI (4 * n)) dX9_text_131 rfl (pk_mul 4 n) ?_
    refine ex_iconst (x := 3) dX9_text_132 rfl rfl ?_
    refine ex_iadd (z := nI ((4 * n) + 3)) dX9_text_133 rfl (nI_add (4 * n) 3) ?_
    refine ex_aload_n dX9_text_134 rfl rfl ?_
    refine ex_getI (s := 42) (x := qm_rI σ 42) dX9_text_135 rfl qp_8_130 rfl rfl (rfl) ?_
    refine ex_iastore (k := (4 * n) + 3) (σ' := qm_wF σ 49 ((4 * n) + 3) (qm_rI σ 42)) dX9_text_138 rfl rfl (rfl) (by omega) (by decide) rfl ?_
    refine ex_aload_n dX9_text_139 rfl rfl ?_
    refine ex_iconst (x := 0) dX9_text_140 rfl rfl ?_
    refine ex_put (σ' := qm_wI (qm_wF σ 49 ((4 * n) + 3) (qm_rI σ 42)) 29 0) dX9_text_141 rfl qp_8_70 rfl rfl (Or.inl rfl) rfl ?_
    refine ex_iload_n dX9_text_144 rfl rfl ?_
    refine ex_if_ne (q := 156) (q2 := 148) dX9_text_145 rfl rfl (fun hh => absurd hh (by decide)) (fun _ => ?_)
    refine ex_bipush (x := (-100)) dX9_text_148 rfl rfl ?_
    refine ex_aload_n dX9_text_150 rfl rfl ?_
    refine ex_getI (s := 37) (x := nI (tpl t e)) dX9_text_151 rfl qp_8_117 rfl rfl (h37) ?_
    refine ex_isub (z := (-100) - nI (tpl t e)) dX9_text_154 rfl (rfl) ?_
    exact ex_iret dX9_text_155 rfl rfl rfl
  · have n28 : ¬ 3 ≤ k := mt (nI_leI (a := 3) (b := k) (by omega) (by omega)).mpr h28
    refine ex_iload_n dX9_text_31 rfl rfl ?_
    refine ex_if_eq (q := 101) (q2 := 35) dX9_text_32 rfl rfl (fun _ => ?_) (fun hh => absurd (by decide) hh)
    refine ex_iload_n dX9_text_101 rfl rfl ?_
    refine ex_if_eq (q := 122) (q2 := 105) dX9_text_102 rfl rfl (fun _ => ?_) (fun hh => absurd (by decide) hh)
    refine ex_aload_n dX9_text_122 rfl rfl ?_
    refine ex_getR (b := 63) dX9_text_123 rfl qp_8_31 rfl rfl ?_
    refine ex_iconst (x := 4) dX9_text_126 rfl rfl ?_
    refine ex_aload_n dX9_text_127 rfl rfl ?_
    refine ex_getI (s := 30) (x := nI n) dX9_text_128 rfl qp_8_105 rfl rfl (h30) ?_
    refine ex_imul (z := nI (4 * n)) dX9_text_131 rfl (pk_mul 4 n) ?_
    refine ex_iconst (x := 3) dX9_text_132 rfl rfl ?_
    refine ex_iadd (z := nI ((4 * n) + 3)) dX9_text_133 rfl (nI_add (4 * n) 3) ?_
    refine ex_aload_n dX9_text_134 rfl rfl ?_
    refine ex_getI (s := 42) (x := qm_rI σ 42) dX9_text_135 rfl qp_8_130 rfl rfl (rfl) ?_
    refine ex_iastore (k := (4 * n) + 3) (σ' := qm_wF σ 49 ((4 * n) + 3) (qm_rI σ 42)) dX9_text_138 rfl rfl (rfl) (by omega) (by decide) rfl ?_
    refine ex_aload_n dX9_text_139 rfl rfl ?_
    refine ex_iconst (x := 0) dX9_text_140 rfl rfl ?_
    refine ex_put (σ' := qm_wI (qm_wF σ 49 ((4 * n) + 3) (qm_rI σ 42)) 29 0) dX9_text_141 rfl qp_8_70 rfl rfl (Or.inl rfl) rfl ?_
    refine ex_iload_n dX9_text_144 rfl rfl ?_
    refine ex_if_ne (q := 156) (q2 := 148) dX9_text_145 rfl rfl (fun hh => absurd hh (by decide)) (fun _ => ?_)
    refine ex_bipush (x := (-100)) dX9_text_148 rfl rfl ?_
    refine ex_aload_n dX9_text_150 rfl rfl ?_
    refine ex_getI (s := 37) (x := nI (tpl t e)) dX9_text_151 rfl qp_8_117 rfl rfl (h37) ?_
    refine ex_isub (z := (-100) - nI (tpl t e)) dX9_text_154 rfl (rfl) ?_
    exact ex_iret dX9_text_155 rfl rfl rfl

set_option maxRecDepth 8000 in
set_option maxHeartbeats 2000000 in
theorem l_tnR {t : gt_T} (hk : gt_ok t) {n : Nat} (hn : n < 6) {σ : qm_St} {i : Nat} {cs : List Nat} (h : RMN t n σ i cs) : (tk t i = 0 → ∃ σ', Ex qm_lay 4 mX9_text 26 [some (.ref 55), some (.int 1), some (.int 3)] [] σ (some (.int (nI n))) σ' ∧ qm_rI σ' 30 = nI (n + 1) ∧ qm_rI σ' 29 = 0 ∧ qm_rF σ' 49 (4 * n + 3) = nI cs.length ∧ (∀ q, q ≠ 4 * n + 3 → qm_rF σ' 49 q = qm_rF σ 49 q) ∧ (∀ k, k < cs.length → qm_rF σ' 48 (200 * n + k) = nI (gx_m (cs.getD k 0))) ∧ sx n σ σ') ∧ (tk t i ≠ 0 → ∃ σ', Ex qm_lay 4 mX9_text 26 [some (.ref 55), some (.int 1), some (.int 3)] [] σ (some (.int ((-100) - nI (tpl t i)))) σ' ∧ qm_rI σ' 30 = nI n ∧ qm_rI σ' 29 = 0 ∧ sx n σ σ') := by
  have t256 := tk_lt hk i
  obtain ⟨-, -, -, -, -, -, -, -, q0⟩ := rtk_k (tk t i) t256
  obtain ⟨σ1, hO1, hL, -, h30, h42, h48, g1, -⟩ := nextT hk h
  have h38 : qm_rI σ1 38 = rtk (tk t i) := hL.2.1
  have h37 : qm_rI σ1 37 = nI (tpl t i) := hL.1
  have gw : sx n σ (qm_wI (qm_wF σ1 49 (4 * n + 3) (nI cs.length)) 29 0) := ((sx.of g1).w49 (by omega) _).wI _ (by omega)
  refine ⟨fun c0 => ?_, fun c0 => ?_⟩
  · refine ⟨qm_wI (qm_wI (qm_wF σ1 49 (4 * n + 3) (nI cs.length)) 29 0) 30 (nI (n + 1)), ?_, rfl, rfl, (by rw [rF_wI, rF_wI, rF_eq]), fun q hq => (by rw [rF_wI, rF_wI, rF_ne (Or.inr hq)]; exact g1.2.1 49 (by decide) (by decide) q), fun k hk2 => (by rw [rF_wI, rF_wI, rF_ne (Or.inl (by decide))]; exact h48 k hk2), gw.wI _ (by omega)⟩
    have k0 := q0.mpr c0
    refine ex_iload_n dX9_text_26 rfl rfl ?_
    refine ex_iconst (x := 3) dX9_text_27 rfl rfl ?_
    refine ex_icmp_ge (q := 101) (q2 := 31) dX9_text_28 rfl rfl (fun _ => ?_) (fun hh => absurd (by decide) hh)
    refine ex_iload_n dX9_text_101 rfl rfl ?_
    refine ex_if_eq (q := 122) (q2 := 105) dX9_text_102 rfl rfl (fun hh => absurd hh (by decide)) (fun _ => ?_)
    refine ex_aload_n dX9_text_105 rfl rfl ?_
    refine ex_callV (a := 55) (rest := []) dX9_text_106 rfl qp_8_152 rfl rfl rfl rfl rfl (Nat.le_of_ble_eq_true rfl) (hO1) (Nat.le_of_ble_eq_true rfl) ?_
    show Ex qm_lay _ mX9_text 109 [some (.ref 55), some (.int 1), some (.int 3)] [] σ1 _ _
    refine ex_aload_n dX9_text_109 rfl rfl ?_
    refine ex_getI (s := 38) (x := rtk (tk t i)) dX9_text_110 rfl qp_8_120 rfl rfl (h38) ?_
    refine ex_if_ne (q := 120) (q2 := 116) dX9_text_113 rfl rfl (fun hh => absurd hh (fun zz => zz k0)) (fun _ => ?_)
    refine ex_iconst (x := 1) dX9_text_116 rfl rfl ?_
    refine ex_goto (q := 121) dX9_text_117 rfl ?_
    refine ex_istore_n (ls' := [some (.ref 55), some (.int 1), some (.int 3)]) dX9_text_121 rfl (Nat.le_of_ble_eq_true rfl) rfl rfl ?_
    refine ex_aload_n dX9_text_122 rfl rfl ?_
    refine ex_getR (b := 63) dX9_text_123 rfl qp_8_31 rfl rfl ?_
    refine ex_iconst (x := 4) dX9_text_126 rfl rfl ?_
    refine ex_aload_n dX9_text_127 rfl rfl ?_
    refine ex_getI (s := 30) (x := nI n) dX9_text_128 rfl qp_8_105 rfl rfl (h30) ?_
    refine ex_imul (z := nI (4 * n)) dX9_text_131 rfl (pk_mul 4 n) ?_
    refine ex_iconst (x := 3) dX9_text_132 rfl rfl ?_
    refine ex_iadd (z := nI ((4 * n) + 3)) dX9_text_133 rfl (nI_add (4 * n) 3) ?_
    refine ex_aload_n dX9_text_134 rfl rfl ?_
    refine ex_getI (s := 42) (x := nI cs.length) dX9_text_135 rfl qp_8_130 rfl rfl (h42) ?_
    refine ex_iastore (k := (4 * n) + 3) (σ' := qm_wF σ1 49 ((4 * n) + 3) (nI cs.length)) dX9_text_138 rfl rfl (rfl) (by omega) (by decide) rfl ?_
    refine ex_aload_n dX9_text_139 rfl rfl ?_
    refine ex_iconst (x := 0) dX9_text_140 rfl rfl ?_
    refine ex_put (σ' := qm_wI (qm_wF σ1 49 ((4 * n) + 3) (nI cs.length)) 29 0) dX9_text_141 rfl qp_8_70 rfl rfl (Or.inl rfl) rfl ?_
    refine ex_iload_n dX9_text_144 rfl rfl ?_
    refine ex_if_ne (q := 156) (q2 := 148) dX9_text_145 rfl rfl (fun _ => ?_) (fun hh => absurd (by decide) hh)
    refine ex_aload_n dX9_text_156 rfl rfl ?_
    refine ex_dup dX9_text_157 rfl rfl ?_
    refine ex_getI (s := 30) (x := nI n) dX9_text_158 rfl qp_8_105 rfl rfl (h30) ?_
    refine ex_iconst (x := 1) dX9_text_161 rfl rfl ?_
    refine ex_iadd (z := nI (n + 1)) dX9_text_162 rfl (nI_add n 1) ?_
    refine ex_put (σ' := qm_wI (qm_wI (qm_wF σ1 49 ((4 * n) + 3) (nI cs.length)) 29 0) 30 (nI (n + 1))) dX9_text_163 rfl qp_8_105 rfl rfl (Or.inl rfl) rfl ?_
    refine ex_aload_n dX9_text_166 rfl rfl ?_
    refine ex_getI (s := 30) (x := nI (n + 1)) dX9_text_167 rfl qp_8_105 rfl rfl (rfl) ?_
    refine ex_iconst (x := 1) dX9_text_170 rfl rfl ?_
    refine ex_isub (z := nI n) dX9_text_171 rfl (pk_sub (a := n + 1) (b := 1) (by omega)) ?_
    exact ex_iret dX9_text_172 rfl rfl rfl
  · refine ⟨qm_wI (qm_wF σ1 49 (4 * n + 3) (nI cs.length)) 29 0, ?_, h30, rfl, gw⟩
    have k0 := mt q0.mp c0
    refine ex_iload_n dX9_text_26 rfl rfl ?_
    refine ex_iconst (x := 3) dX9_text_27 rfl rfl ?_
    refine ex_icmp_ge (q := 101) (q2 := 31) dX9_text_28 rfl rfl (fun _ => ?_) (fun hh => absurd (by decide) hh)
    refine ex_iload_n dX9_text_101 rfl rfl ?_
    refine ex_if_eq (q := 122) (q2 := 105) dX9_text_102 rfl rfl (fun hh => absurd hh (by decide)) (fun _ => ?_)
    refine ex_aload_n dX9_text_105 rfl rfl ?_
    refine ex_callV (a := 55) (rest := []) dX9_text_106 rfl qp_8_152 rfl rfl rfl rfl rfl (Nat.le_of_ble_eq_true rfl) (hO1) (Nat.le_of_ble_eq_true rfl) ?_
    show Ex qm_lay _ mX9_text 109 [some (.ref 55), some (.int 1), some (.int 3)] [] σ1 _ _
    refine ex_aload_n dX9_text_109 rfl rfl ?_
    refine ex_getI (s := 38) (x := rtk (tk t i)) dX9_text_110 rfl qp_8_120 rfl rfl (h38) ?_
    refine ex_if_ne (q := 120) (q2 := 116) dX9_text_113 rfl rfl (fun _ => ?_) (fun hh => absurd (k0) hh)
    refine ex_iconst (x := 0) dX9_text_120 rfl rfl ?_
    refine ex_istore_n (ls' := [some (.ref 55), some (.int 0), some (.int 3)]) dX9_text_121 rfl (Nat.le_of_ble_eq_true rfl) rfl rfl ?_
    refine ex_aload_n dX9_text_122 rfl rfl ?_
    refine ex_getR (b := 63) dX9_text_123 rfl qp_8_31 rfl rfl ?_
    refine ex_iconst (x := 4) dX9_text_126 rfl rfl ?_
    refine ex_aload_n dX9_text_127 rfl rfl ?_
    refine ex_getI (s := 30) (x := nI n) dX9_text_128 rfl qp_8_105 rfl rfl (h30) ?_
    refine ex_imul (z := nI (4 * n)) dX9_text_131 rfl (pk_mul 4 n) ?_
    refine ex_iconst (x := 3) dX9_text_132 rfl rfl ?_
    refine ex_iadd (z := nI ((4 * n) + 3)) dX9_text_133 rfl (nI_add (4 * n) 3) ?_
    refine ex_aload_n dX9_text_134 rfl rfl ?_
    refine ex_getI (s := 42) (x := nI cs.length) dX9_text_135 rfl qp_8_130 rfl rfl (h42) ?_
    refine ex_iastore (k := (4 * n) + 3) (σ' := qm_wF σ1 49 ((4 * n) + 3) (nI cs.length)) dX9_text_138 rfl rfl (rfl) (by omega) (by decide) rfl ?_
    refine ex_aload_n dX9_text_139 rfl rfl ?_
    refine ex_iconst (x := 0) dX9_text_140 rfl rfl ?_
    refine ex_put (σ' := qm_wI (qm_wF σ1 49 ((4 * n) + 3) (nI cs.length)) 29 0) dX9_text_141 rfl qp_8_70 rfl rfl (Or.inl rfl) rfl ?_
    refine ex_iload_n dX9_text_144 rfl rfl ?_
    refine ex_if_ne (q := 156) (q2 := 148) dX9_text_145 rfl rfl (fun hh => absurd hh (by decide)) (fun _ => ?_)
    refine ex_bipush (x := (-100)) dX9_text_148 rfl rfl ?_
    refine ex_aload_n dX9_text_150 rfl rfl ?_
    refine ex_getI (s := 37) (x := nI (tpl t i)) dX9_text_151 rfl qp_8_117 rfl rfl (h37) ?_
    refine ex_isub (z := (-100) - nI (tpl t i)) dX9_text_154 rfl (rfl) ?_
    exact ex_iret dX9_text_155 rfl rfl rfl

set_option maxRecDepth 8000 in
set_option maxHeartbeats 2000000 in
theorem l_text3 {t : gt_T} (hk : gt_ok t) {n : Nat} (hn : n < 6) {σ : qm_St} (h : RMN t n σ 0 []) : ∃ σ', (match full t with
    | .inl e => Ex qm_lay 4 mX9_text 26 [some (.ref 55), some (.int 1), some (.int 0)] [] σ (some (.int ((-100) - nI (tpl t e)))) σ' ∧ qm_rI σ' 30 = nI n
    | .inr q => Ex qm_lay 4 mX9_text 26 [some (.ref 55), some (.int 1), some (.int 0)] [] σ (some (.int (nI n))) σ' ∧ qm_rI σ' 30 = nI (n + 1) ∧ (∀ p, p < 4 → qm_rF σ' 49 (4 * n + p) = nI (fst_ q.1 q.2.1 q.2.2 p)) ∧ ∀ k, k < q.2.2.length → qm_rF σ' 48 (200 * n + k) = nI (gx_m (q.2.2.getD k 0))) ∧ qm_rI σ' 29 = 0 ∧ sx n σ σ' := by
  have ht := hk.1
  obtain ⟨σ1, hE1, hP1, h301, hr1, hq1, hs1⟩ := l_txR hk hn (k := 0) (by decide) h (Nat.le_refl 0) (by decide)
  cases e1 : pP t 0 0 [] with
  | inl e =>
    rw [e1] at hP1 hE1
    obtain ⟨σ4, hE4, h304, h294, hs4⟩ := l_tnF hn (t := t) (e := e) (k := 0 + 1) (by decide) h301 hP1
    have ef : full t = .inl e := by unfold full; rw [e1]; rfl
    rw [ef]
    exact ⟨σ4, ⟨hE1 _ _ hE4, h304⟩, h294, hs1.tr hs4⟩
  | inr r1 =>
    rw [e1] at hP1 hE1
    obtain ⟨a1, a2, w1, a3, a4⟩ := pP_ok ht (Nat.le_refl 0) e1
    obtain ⟨σ2, hE2, hP2, h302, hr2, hq2, hs2⟩ := l_txR hk hn (k := 1) (by decide) hP1 a2 a1
    have ef1 : full t = full2 t r1.2.length (pP t 1 r1.1 r1.2) := by unfold full; rw [e1]; rfl
    cases e2 : pP t 1 r1.1 r1.2 with
    | inl e =>
      rw [e2] at hP2 hE2
      obtain ⟨σ4, hE4, h304, h294, hs4⟩ := l_tnF hn (t := t) (e := e) (k := 1 + 1) (by decide) h302 hP2
      have ef : full t = .inl e := by rw [ef1, e2]; rfl
      rw [ef]
      exact ⟨σ4, ⟨hE1 _ _ (hE2 _ _ hE4), h304⟩, h294, hs1.tr (hs2.tr hs4)⟩
    | inr r2 =>
      rw [e2] at hP2 hE2
      obtain ⟨b1, b2, w2, b3, b4⟩ := pP_ok ht a2 e2
      obtain ⟨σ3, hE3, hP3, h303, hr3, hq3, hs3⟩ := l_txR hk hn (k := 2) (by decide) hP2 b2 b1
      have ef2 : full t = full3 t r1.2.length r2.2.length (pP t 2 r2.1 r2.2) := by rw [ef1, e2]; rfl
      cases e3 : pP t 2 r2.1 r2.2 with
      | inl e =>
        rw [e3] at hP3 hE3
        obtain ⟨σ4, hE4, h304, h294, hs4⟩ := l_tnF hn (t := t) (e := e) (k := 2 + 1) (by decide) h303 hP3
        have ef : full t = .inl e := by rw [ef2, e3]; rfl
        rw [ef]
        exact ⟨σ4, ⟨hE1 _ _ (hE2 _ _ (hE3 _ _ hE4)), h304⟩, h294, hs1.tr (hs2.tr (hs3.tr hs4))⟩
      | inr r3 =>
        rw [e3] at hP3 hE3
        obtain ⟨c1, c2, w3, c3, c4⟩ := pP_ok ht b2 e3
        obtain ⟨gA, gB⟩ := l_tnR hk hn hP3
        have ef3 : full t = if tk t r3.1 = 0 then (.inr (r1.2.length, r2.2.length, r3.2) : tX) else .inl r3.1 := by rw [ef2, e3]; rfl
        by_cases c0 : tk t r3.1 = 0
        · rw [if_pos c0] at ef3
          obtain ⟨σ4, hE4, h304, h294, f1, f2, f3, hs4⟩ := gA c0
          rw [ef3]
          refine ⟨σ4, ⟨hE1 _ _ (hE2 _ _ (hE3 _ _ hE4)), h304, fun p hp => ?_, f3⟩, h294, hs1.tr (hs2.tr (hs3.tr hs4))⟩
          have hp4 : p = 0 ∨ p = 1 ∨ p = 2 ∨ p = 3 := by omega
          rcases hp4 with e | e | e | e
          · subst e
            rw [f2 _ (by omega), hq3 _ (by omega), hq2 _ (by omega), hr1]; rfl
          · subst e
            rw [f2 _ (by omega), hq3 _ (by omega), hr2]; rfl
          · subst e
            rw [f2 _ (by omega), hr3]; rfl
          · subst e
            rw [f1]; rfl
        · rw [if_neg c0] at ef3
          obtain ⟨σ4, hE4, h304, h294, hs4⟩ := gB c0
          rw [ef3]
          exact ⟨σ4, ⟨hE1 _ _ (hE2 _ _ (hE3 _ _ hE4)), h304⟩, h294, hs1.tr (hs2.tr (hs3.tr hs4))⟩

set_option maxRecDepth 8000 in
set_option maxHeartbeats 2000000 in
theorem k_text {t : gt_T} (hk : gt_ok t) {n : Nat} (hn : n < 6) {σ : qm_St} (hP : PM σ t) (hW : KW σ) (h30 : qm_rI σ 30 = nI n) : ∃ σ', (match full t with
    | .inl e => Ok qm_lay 4 mX9_text [.ref 55] σ (some (.int ((-100) - nI (tpl t e)))) σ' ∧ qm_rI σ' 30 = nI n
    | .inr q => Ok qm_lay 4 mX9_text [.ref 55] σ (some (.int (nI n))) σ' ∧ qm_rI σ' 30 = nI (n + 1) ∧ (∀ p, p < 4 → qm_rF σ' 49 (4 * n + p) = nI (fst_ q.1 q.2.1 q.2.2 p)) ∧ ∀ k, k < q.2.2.length → qm_rF σ' 48 (200 * n + k) = nI (gx_m (q.2.2.getD k 0))) ∧ qm_rI σ' 29 = 0 ∧ sx n σ σ' := by
  have h1 : RMN t n (qm_wI (qm_wI σ 36 0) 42 0) 0 [] := ⟨hP, hW, rfl, h30, rfl, fun k hk2 => absurd hk2 (Nat.not_lt_zero k)⟩
  have g0 : sx n σ (qm_wI (qm_wI σ 36 0) 42 0) := ((sx.rf n σ).wI (s := 36) _ (by omega)).wI (s := 42) _ (by omega)
  obtain ⟨σ', hE, h29, hs⟩ := l_text3 hk hn h1
  refine ⟨σ', ?_, h29, g0.tr hs⟩
  cases ef : full t with
  | inl e =>
    rw [ef] at hE
    refine ⟨?_, hE.2⟩
    refine Ok.of (ls := [some (.ref 55), none, none]) (Nat.le_of_ble_eq_true rfl) rfl ?_
    refine ex_aload_n dX9_text_0 rfl rfl ?_
    refine ex_getI (s := 30) (x := nI n) dX9_text_1 rfl qp_8_105 rfl rfl (h30) ?_
    refine ex_bipush (x := 6) dX9_text_4 rfl rfl ?_
    refine ex_icmp_ne (q := 12) (q2 := 9) dX9_text_6 rfl rfl (fun _ => ?_) (fun hh => absurd (fun zz => absurd ((nI_eq (a := n) (b := 6) (by omega) (by omega)).mp zz) (by omega)) hh)
    refine ex_aload_n dX9_text_12 rfl rfl ?_
    refine ex_iconst (x := 0) dX9_text_13 rfl rfl ?_
    refine ex_put (σ' := qm_wI σ 36 0) dX9_text_14 rfl qp_8_114 rfl rfl (Or.inl rfl) rfl ?_
    refine ex_aload_n dX9_text_17 rfl rfl ?_
    refine ex_iconst (x := 0) dX9_text_18 rfl rfl ?_
    refine ex_put (σ' := qm_wI (qm_wI σ 36 0) 42 0) dX9_text_19 rfl qp_8_130 rfl rfl (Or.inl rfl) rfl ?_
    refine ex_iconst (x := 1) dX9_text_22 rfl rfl ?_
    refine ex_istore_n (ls' := [some (.ref 55), some (.int 1), none]) dX9_text_23 rfl (Nat.le_of_ble_eq_true rfl) rfl rfl ?_
    refine ex_iconst (x := 0) dX9_text_24 rfl rfl ?_
    refine ex_istore_n (ls' := [some (.ref 55), some (.int 1), some (.int 0)]) dX9_text_25 rfl (Nat.le_of_ble_eq_true rfl) rfl rfl ?_
    exact hE.1
  | inr q =>
    rw [ef] at hE
    refine ⟨?_, hE.2⟩
    refine Ok.of (ls := [some (.ref 55), none, none]) (Nat.le_of_ble_eq_true rfl) rfl ?_
    refine ex_aload_n dX9_text_0 rfl rfl ?_
    refine ex_getI (s := 30) (x := nI n) dX9_text_1 rfl qp_8_105 rfl rfl (h30) ?_
    refine ex_bipush (x := 6) dX9_text_4 rfl rfl ?_
    refine ex_icmp_ne (q := 12) (q2 := 9) dX9_text_6 rfl rfl (fun _ => ?_) (fun hh => absurd (fun zz => absurd ((nI_eq (a := n) (b := 6) (by omega) (by omega)).mp zz) (by omega)) hh)
    refine ex_aload_n dX9_text_12 rfl rfl ?_
    refine ex_iconst (x := 0) dX9_text_13 rfl rfl ?_
    refine ex_put (σ' := qm_wI σ 36 0) dX9_text_14 rfl qp_8_114 rfl rfl (Or.inl rfl) rfl ?_
    refine ex_aload_n dX9_text_17 rfl rfl ?_
    refine ex_iconst (x := 0) dX9_text_18 rfl rfl ?_
    refine ex_put (σ' := qm_wI (qm_wI σ 36 0) 42 0) dX9_text_19 rfl qp_8_130 rfl rfl (Or.inl rfl) rfl ?_
    refine ex_iconst (x := 1) dX9_text_22 rfl rfl ?_
    refine ex_istore_n (ls' := [some (.ref 55), some (.int 1), none]) dX9_text_23 rfl (Nat.le_of_ble_eq_true rfl) rfl rfl ?_
    refine ex_iconst (x := 0) dX9_text_24 rfl rfl ?_
    refine ex_istore_n (ls' := [some (.ref 55), some (.int 1), some (.int 0)]) dX9_text_25 rfl (Nat.le_of_ble_eq_true rfl) rfl rfl ?_
    exact hE.1

set_option maxRecDepth 8000 in
set_option maxHeartbeats 2000000 in
theorem j_text {T : tn_T} {X : gx_T} {P : gt_T} {Im : gi_T} {S : gs_T} (hG : gg_ok (T, X, P, Im, S)) : J mX8_text mX9_text [] (T, X, P, Im, S) := by
  have hT : tn_ok T := hG.1
  have hX : gx_ok X := hG.2.1
  have hP : gt_ok P := hG.2.2.1
  have hI : gi_ok T (gx_n X) Im := hG.2.2.2.1
  have hS : gs_ok S := hG.2.2.2.2.1
  have hw : tn_w T < gx_n X := hG.2.2.2.2.2
  have hL := hT.1
  have hw6 := hT.2.1
  have hu := tn_u_lt hT
  have hX6 := hX.2.1
  have hP6 := hP.1
  have h6 : gx_n X = 6 ∨ gx_n X < 6 := by omega
  rcases h6 with c6 | c6
  · refine J.q hG (.int (-4)) (fun σ hC => ?_) (fun σ hM => ?_)
    · have h : TR σ 9 18 T := hC.1
      refine Ok.of (ls := [some (.ref 54), none]) (Nat.le_of_ble_eq_true rfl) rfl ?_
      refine ex_aload_n dX8_text_0 rfl rfl ?_
      refine ex_getR (b := 4) dX8_text_1 rfl qp_7_29 rfl rfl ?_
      refine ex_getI (s := 7) (x := nI (gx_n X)) dX8_text_4 rfl qp_7_75 rfl rfl (hC.2.1.1) ?_
      refine ex_bipush (x := 6) dX8_text_7 rfl rfl ?_
      refine ex_icmp_lt (q := 15) (q2 := 12) dX8_text_9 rfl rfl (fun hh => absurd hh (nI_nlt (a := (gx_n X)) (b := 6) (by omega) (by omega))) (fun _ => ?_)
      refine ex_bipush (x := (-4)) dX8_text_12 rfl rfl ?_
      exact ex_iret dX8_text_14 rfl rfl rfl
    · have h : MR σ T := hM.1
      refine Ok.of (ls := [some (.ref 55), none, none]) (Nat.le_of_ble_eq_true rfl) rfl ?_
      refine ex_aload_n dX9_text_0 rfl rfl ?_
      refine ex_getI (s := 30) (x := nI (gx_n X)) dX9_text_1 rfl qp_8_105 rfl rfl (hM.2.1.1) ?_
      refine ex_bipush (x := 6) dX9_text_4 rfl rfl ?_
      refine ex_icmp_ne (q := 12) (q2 := 9) dX9_text_6 rfl rfl (fun hh => absurd hh (fun zz => zz (congrArg nI (show (gx_n X) = 6 by omega)))) (fun _ => ?_)
      refine ex_bipush (x := (-4)) dX9_text_9 rfl rfl ?_
      exact ex_iret dX9_text_11 rfl rfl rfl
  · cases ef : full P with
    | inl e =>
      have htp := tpl_160 hP e
      refine J.u (.int ((-100) - nI (tpl P e))) (T, X, (0, P.2), Im, S) ⟨hT, hX, ⟨Nat.zero_le _, fun i hi => absurd hi (Nat.not_lt_zero i)⟩, hI, hS, hw⟩ (fun σ hC => ?_) (fun σ hM => ?_)
      · obtain ⟨σ1, hs1, hO⟩ := c_readTape hP (ext := qm_layR) hC.2.2.1 hC.2.1.1 c6
        rw [ef] at hO
        have hO : Ok qm_lay 51 mX6_readTape [.ref 4] σ (some (.int (nI (tpl P e)))) (qm_wI σ1 8 0) := hO
        have hb : sm σ1 (qm_wI σ1 8 0) 8 9 0 0 := (sm.rf σ1 8 9 0 0).wI _ (by omega)
        refine ⟨_, ?_, ⟨(hC.1.sm hs1 (by omega) (by omega)).sm hb (by omega) (by omega), (hC.2.1.sm hX hs1 (by omega) (by omega)).sm hX hb (by omega) (by omega), ⟨rfl, fun i hi => absurd hi (Nat.not_lt_zero i)⟩, (hC.2.2.2.1.sm hs1 (by omega) (by omega)).sm hb (by omega) (by omega), (hC.2.2.2.2.sm hs1 (by omega)).sm hb (by omega)⟩, (hs1.wid (by omega) (by omega)).tr (hb.wid (by omega) (by omega))⟩
        refine Ok.of (ls := [some (.ref 54), none]) (Nat.le_of_ble_eq_true rfl) rfl ?_
        refine ex_aload_n dX8_text_0 rfl rfl ?_
        refine ex_getR (b := 4) dX8_text_1 rfl qp_7_29 rfl rfl ?_
        refine ex_getI (s := 7) (x := nI (gx_n X)) dX8_text_4 rfl qp_7_75 rfl rfl (hC.2.1.1) ?_
        refine ex_bipush (x := 6) dX8_text_7 rfl rfl ?_
        refine ex_icmp_lt (q := 15) (q2 := 12) dX8_text_9 rfl rfl (fun _ => ?_) (fun hh => absurd (nI_lt (a := (gx_n X)) (b := 6) (by omega) (by omega)) hh)
        refine ex_aload_n dX8_text_15 rfl rfl ?_
        refine ex_getR (b := 4) dX8_text_16 rfl qp_7_29 rfl rfl ?_
        refine ex_callV (a := 4) (rest := []) dX8_text_19 rfl qp_7_92 rfl rfl rfl rfl rfl (Nat.le_of_ble_eq_true rfl) (hO) (Nat.le_of_ble_eq_true rfl) ?_
        show Ex qm_lay _ mX8_text 22 [some (.ref 54), none] [.int (nI (tpl P e))] (qm_wI σ1 8 0) _ _
        refine ex_istore_n (ls' := [some (.ref 54), some (.int (nI (tpl P e)))]) dX8_text_22 rfl (Nat.le_of_ble_eq_true rfl) rfl rfl ?_
        refine ex_iload_n dX8_text_23 rfl rfl ?_
        refine ex_if_lt (q := 34) (q2 := 27) dX8_text_24 rfl rfl (fun hh => absurd hh (nI_pos (by omega))) (fun _ => ?_)
        refine ex_bipush (x := (-100)) dX8_text_27 rfl rfl ?_
        refine ex_iload_n dX8_text_29 rfl rfl ?_
        refine ex_isub (z := (-100) - nI (tpl P e)) dX8_text_30 rfl (rfl) ?_
        refine ex_goto (q := 43) dX8_text_31 rfl ?_
        exact ex_iret dX8_text_43 rfl rfl rfl
      · obtain ⟨σ', hO, h29, hs⟩ := k_text hP c6 hM.2.2.1 hM.2.2.2.2.2 hM.2.1.1
        rw [ef] at hO
        obtain ⟨m1, m2, m3, m4⟩ := hs.mg hM
        refine ⟨σ', hO.1.mono (by omega), ⟨m1, ⟨hO.2, fun u hu => ⟨fun p hp => ?_, fun k hk2 => ?_⟩⟩, ⟨h29, fun i hi => absurd hi (Nat.not_lt_zero i)⟩, m2, m3, m4⟩, hs.sm⟩
        · have hu2 : u < gx_n X := hu
          rw [hs.2.2.2 _ (by omega)]; exact (hM.2.1.2 u hu).1 p hp
        · have hu2 : u < gx_n X := hu
          have h160 := (hX.2.2 u hu).2.1
          have hk3 : k < gx_s X u 3 := hk2
          rw [hs.2.2.1 _ (by omega)]; exact (hM.2.1.2 u hu).2 k hk2
    | inr q =>
      obtain ⟨a, b, c⟩ := q
      have hc160 := (full_ok hP.1 ef).1
      have hXn := gx_add_ok hX c6 hP.1 ef
      have es : gx_s (gg_x (T, gx_add X a b c, ((0, P.2) : gt_T), Im, S)) (gx_n X) = fst_ a b c := if_pos rfl
      have ec : gx_c (gg_x (T, gx_add X a b c, ((0, P.2) : gt_T), Im, S)) (gx_n X) = fun k => c.getD k 0 := if_pos rfl
      have fs : ∀ u, u ≠ gx_n X → gx_s (gg_x (T, gx_add X a b c, ((0, P.2) : gt_T), Im, S)) u = gx_s X u := fun u h => if_neg h
      have fc : ∀ u, u ≠ gx_n X → gx_c (gg_x (T, gx_add X a b c, ((0, P.2) : gt_T), Im, S)) u = gx_c X u := fun u h => if_neg h
      refine J.u (.int (nI (gx_n X))) (T, gx_add X a b c, (0, P.2), Im, S) ⟨hT, hXn, ⟨Nat.zero_le _, fun i hi => absurd hi (Nat.not_lt_zero i)⟩, fun z => ⟨(hI z).1, Nat.lt_succ_of_lt (hI z).2.1, (hI z).2.2⟩, hS, Nat.lt_succ_of_lt hw⟩ (fun σ hC => ?_) (fun σ hM => ?_)
      · obtain ⟨σ1, hs1, hO⟩ := c_readTape hP (ext := qm_layR) hC.2.2.1 hC.2.1.1 c6
        rw [ef] at hO
        obtain ⟨hO, f1, f2⟩ := hO
        have hO : Ok qm_lay 51 mX6_readTape [.ref 4] σ (some (.int (-1))) (qm_wI (qm_wR (qm_wR (qm_wI σ1 8 0) (6 + gx_n X) (va_cpy (σ1.2 0) (σ1.2 (6 + gx_n X)) 0 0 160)) (12 + gx_n X) (va_cpy ((qm_wR (qm_wI σ1 8 0) (6 + gx_n X) (va_cpy (σ1.2 0) (σ1.2 (6 + gx_n X)) 0 0 160)).2 1) ((qm_wR (qm_wI σ1 8 0) (6 + gx_n X) (va_cpy (σ1.2 0) (σ1.2 (6 + gx_n X)) 0 0 160)).2 (12 + gx_n X)) 0 0 4)) 7 (nI (gx_n X + 1))) := hO
        have hb : sm σ1 (qm_wI (qm_wR (qm_wR (qm_wI σ1 8 0) (6 + gx_n X) (va_cpy (σ1.2 0) (σ1.2 (6 + gx_n X)) 0 0 160)) (12 + gx_n X) (va_cpy ((qm_wR (qm_wI σ1 8 0) (6 + gx_n X) (va_cpy (σ1.2 0) (σ1.2 (6 + gx_n X)) 0 0 160)).2 1) ((qm_wR (qm_wI σ1 8 0) (6 + gx_n X) (va_cpy (σ1.2 0) (σ1.2 (6 + gx_n X)) 0 0 160)).2 (12 + gx_n X)) 0 0 4)) 7 (nI (gx_n X + 1))) 7 9 6 18 := ((((sm.rf σ1 7 9 6 18).wI (s := 8) _ (by omega)).wR (j := 6 + gx_n X) _ (by omega)).wR (j := 12 + gx_n X) _ (by omega)).wI (s := 7) _ (by omega)
        refine ⟨_, ?_, ⟨(hC.1.sm hs1 (by omega) (by omega)).sm hb (by omega) (by omega), ⟨rfl, fun u hu => ?_⟩, ⟨rfl, fun i hi => absurd hi (Nat.not_lt_zero i)⟩, (hC.2.2.2.1.sm hs1 (by omega) (by omega)).sm hb (by omega) (by omega), (hC.2.2.2.2.sm hs1 (by omega)).sm hb (by omega)⟩, (hs1.wid (by omega) (by omega)).tr (hb.wid (by omega) (by omega))⟩
        · refine Ok.of (ls := [some (.ref 54), none]) (Nat.le_of_ble_eq_true rfl) rfl ?_
          refine ex_aload_n dX8_text_0 rfl rfl ?_
          refine ex_getR (b := 4) dX8_text_1 rfl qp_7_29 rfl rfl ?_
          refine ex_getI (s := 7) (x := nI (gx_n X)) dX8_text_4 rfl qp_7_75 rfl rfl (hC.2.1.1) ?_
          refine ex_bipush (x := 6) dX8_text_7 rfl rfl ?_
          refine ex_icmp_lt (q := 15) (q2 := 12) dX8_text_9 rfl rfl (fun _ => ?_) (fun hh => absurd (nI_lt (a := (gx_n X)) (b := 6) (by omega) (by omega)) hh)
          refine ex_aload_n dX8_text_15 rfl rfl ?_
          refine ex_getR (b := 4) dX8_text_16 rfl qp_7_29 rfl rfl ?_
          refine ex_callV (a := 4) (rest := []) dX8_text_19 rfl qp_7_92 rfl rfl rfl rfl rfl (Nat.le_of_ble_eq_true rfl) (hO) (Nat.le_of_ble_eq_true rfl) ?_
          show Ex qm_lay _ mX8_text 22 [some (.ref 54), none] [.int (-1)] (qm_wI (qm_wR (qm_wR (qm_wI σ1 8 0) (6 + gx_n X) (va_cpy (σ1.2 0) (σ1.2 (6 + gx_n X)) 0 0 160)) (12 + gx_n X) (va_cpy ((qm_wR (qm_wI σ1 8 0) (6 + gx_n X) (va_cpy (σ1.2 0) (σ1.2 (6 + gx_n X)) 0 0 160)).2 1) ((qm_wR (qm_wI σ1 8 0) (6 + gx_n X) (va_cpy (σ1.2 0) (σ1.2 (6 + gx_n X)) 0 0 160)).2 (12 + gx_n X)) 0 0 4)) 7 (nI (gx_n X + 1))) _ _
          refine ex_istore_n (ls' := [some (.ref 54), some (.int (-1))]) dX8_text_22 rfl (Nat.le_of_ble_eq_true rfl) rfl rfl ?_
          refine ex_iload_n dX8_text_23 rfl rfl ?_
          refine ex_if_lt (q := 34) (q2 := 27) dX8_text_24 rfl rfl (fun _ => ?_) (fun hh => absurd (by decide) hh)
          refine ex_aload_n dX8_text_34 rfl rfl ?_
          refine ex_getR (b := 4) dX8_text_35 rfl qp_7_29 rfl rfl ?_
          refine ex_getI (s := 7) (x := nI (gx_n X + 1)) dX8_text_38 rfl qp_7_75 rfl rfl (rfl) ?_
          refine ex_iconst (x := 1) dX8_text_41 rfl rfl ?_
          refine ex_isub (z := nI (gx_n X)) dX8_text_42 rfl (pk_sub (a := gx_n X + 1) (b := 1) (by omega)) ?_
          exact ex_iret dX8_text_43 rfl rfl rfl
        · have hu2 : u < gx_n X + 1 := hu
          by_cases eu : u = gx_n X
          · subst eu
            rw [es, ec]
            refine ⟨fun p hp => ?_, fun k hk2 => ?_⟩
            · rw [rF_wI, rF_wR, if_pos rfl, pk_cpy_in (by omega) (by omega), Nat.zero_add, Nat.sub_zero]
              refine Eq.trans ?_ (f1 p hp)
              show qm_rF (qm_wR (qm_wI σ1 8 0) (6 + gx_n X) (va_cpy (σ1.2 0) (σ1.2 (6 + gx_n X)) 0 0 160)) 1 p = qm_rF σ1 1 p
              rw [rF_wR, if_neg (by omega)]; rfl
            · have hk3 : k < c.length := hk2
              rw [rF_wI, rF_wR, if_neg (by omega), rF_wR, if_pos rfl, pk_cpy_in (by omega) (by omega), Nat.zero_add, Nat.sub_zero]
              exact f2 k hk3
          · rw [fs u eu, fc u eu]
            have h0 := hC.2.1.2 u (show u < gx_n X by omega)
            refine ⟨fun p hp => ?_, fun k hk2 => ?_⟩
            · rw [rF_wI, rF_wR, if_neg (by omega), rF_wR, if_neg (by omega), rF_wI, hs1.2 _ (by omega)]
              exact h0.1 p hp
            · rw [rF_wI, rF_wR, if_neg (by omega), rF_wR, if_neg (by omega), rF_wI, hs1.2 _ (by omega)]
              exact h0.2 k hk2
      · obtain ⟨σ', hO, h29, hs⟩ := k_text hP c6 hM.2.2.1 hM.2.2.2.2.2 hM.2.1.1
        rw [ef] at hO
        obtain ⟨hO, h30, f1, f2⟩ := hO
        obtain ⟨m1, m2, m3, m4⟩ := hs.mg hM
        refine ⟨σ', hO.mono (by omega), ⟨m1, ⟨h30, fun u hu => ?_⟩, ⟨h29, fun i hi => absurd hi (Nat.not_lt_zero i)⟩, m2, m3, m4⟩, hs.sm⟩
        have hu2 : u < gx_n X + 1 := hu
        by_cases eu : u = gx_n X
        · subst eu
          rw [es, ec]
          exact ⟨f1, f2⟩
        · rw [fs u eu, fc u eu]
          have hu3 : u < gx_n X := by omega
          have h0 := hM.2.1.2 u hu3
          have h160 := (hX.2.2 u hu3).2.1
          refine ⟨fun p hp => ?_, fun k hk2 => ?_⟩
          · rw [hs.2.2.2 _ (by omega)]; exact h0.1 p hp
          · rw [hs.2.2.1 _ (by omega)]; exact h0.2 k hk2

