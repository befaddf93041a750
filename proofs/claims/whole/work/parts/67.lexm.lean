/-! ===== the other side's tokens ===== -/
def kwL : List Int32 := [119, 111, 114, 116, 104, 32, 32, 32, 119, 97, 105, 116, 115, 32, 32, 32, 109, 111, 118, 101, 115, 32, 32, 32, 99, 111, 108, 111, 117, 114, 32, 32, 108, 111, 116, 32, 32, 32, 32, 32, 98, 101, 115, 105, 100, 101, 32, 32, 111, 114, 100, 101, 114, 32, 32, 32, 109, 111, 114, 101, 32, 32, 32, 32, 108, 111, 116, 115, 32, 32, 32, 32, 111, 114, 32, 32, 32, 32, 32, 32, 97, 110, 100, 32, 32, 32, 32, 32, 110, 111, 116, 32, 32, 32, 32, 32]
theorem kw_at {σ : qm_St} (h : KW σ) {i : Nat} (hi : i < 96) : qm_rF σ 55 i = kwL.getD i 0 := h i hi
theorem alf_iff {g : Nat → Bool} : ∀ {r k : Nat}, alf g r k = true ↔ ∀ i, k ≤ i → i < k + r → g i = true
  | 0, k => ⟨fun _ i h1 h2 => by omega, fun _ => rfl⟩
  | r + 1, k => by
    rw [alf, Bool.and_eq_true, alf_iff]
    refine ⟨fun h i h1 h2 => ?_, fun h => ⟨h k (Nat.le_refl k) (by omega), fun i h1 h2 => h i (by omega) (by omega)⟩⟩
    by_cases e : i = k
    · rw [e]; exact h.1
    · exact h.2 i (by omega) (by omega)
/-- the other side's word by its number, and its number there -/
def wpk (k : Nat) : Nat := if k < 3 then k + 6 else if k < 9 then k - 3 else k
def kwp (w : Nat) : Nat := if w < 6 then w + 3 else if w < 9 then w - 6 else w
def mkw (t : gt_T) (p e k : Nat) : Bool := decide (e - p ≤ 8) && alf (fun j => decide (kwL.getD (8 * k + j) 0 = if p + j < e then nI (t.2 (p + j)) else 32)) 8 0
theorem kw_wst : ∀ k, k < 12 → (∀ j, j < 8 → kwL.getD (8 * k + j) 0 = (wst (wpk k)).getD j 32) ∧ (wst (wpk k)).length ≤ 6 ∧ (∀ j, j < 6 → j < (wst (wpk k)).length → (wst (wpk k)).getD j 32 ≠ 32 ∧ (wst (wpk k)).getD j 32 = (wst (wpk k)).getD j 0) := by decide +kernel
theorem mkw_eq {t : gt_T} {p e k : Nat} (hk : k < 12) (h : ∀ i, p ≤ i → i < e → tIsL (t.2 i) = true) (h256 : ∀ i, p ≤ i → i < e → t.2 i < 256) : mkw t p e k = mtw t p e (wpk k) := by
  obtain ⟨g1, g2, g3⟩ := kw_wst k hk
  have n32 : ∀ i, p ≤ i → i < e → nI (t.2 i) ≠ 32 := fun i h1 h2 z => by
    have e2 := (nI_eq (a := t.2 i) (b := 32) (by have := h256 i h1 h2; omega) (by decide)).mp z
    have e3 := h i h1 h2
    rw [e2] at e3
    exact absurd e3 (by decide)
  rw [Bool.eq_iff_iff]
  unfold mkw mtw
  rw [Bool.and_eq_true, Bool.and_eq_true, alf_iff, alf_iff, decide_eq_true_eq, decide_eq_true_eq]
  constructor
  · rintro ⟨c1, c2⟩
    have hl : (wst (wpk k)).length = e - p := by
      rcases Nat.lt_trichotomy (wst (wpk k)).length (e - p) with c | c | c
      · exfalso
        have c3 := of_decide_eq_true (c2 (wst (wpk k)).length (Nat.zero_le _) (by omega))
        rw [g1 _ (by omega), if_pos (by omega), List.getD_eq_getElem?_getD, List.getElem?_eq_none (Nat.le_refl _)] at c3
        exact n32 _ (by omega) (by omega) c3.symm
      · exact c
      · exfalso
        have c3 := of_decide_eq_true (c2 (e - p) (Nat.zero_le _) (by omega))
        rw [g1 _ (by omega), if_neg (by omega)] at c3
        exact (g3 (e - p) (by omega) c).1 c3
    refine ⟨hl, fun i h1 h2 => decide_eq_true ?_⟩
    have c3 := of_decide_eq_true (c2 i (Nat.zero_le _) (by omega))
    rw [g1 _ (by omega), if_pos (by omega), (g3 i (by omega) (by omega)).2] at c3
    exact c3
  · rintro ⟨c1, c2⟩
    refine ⟨by omega, fun i h1 h2 => decide_eq_true ?_⟩
    rw [g1 i (by omega)]
    by_cases c : p + i < e
    · rw [if_pos c, (g3 i (by omega) (by omega)).2]
      exact of_decide_eq_true (c2 i (Nat.zero_le _) (by omega))
    · rw [if_neg c, List.getD_eq_getElem?_getD, List.getElem?_eq_none (by omega)]; rfl
def wkf (t : gt_T) (p e : Nat) : Nat → Nat → Nat
  | 0, k => k
  | r + 1, k => if mkw t p e k = true then k else wkf t p e r (k + 1)
theorem wkf_le (t : gt_T) (p e : Nat) : ∀ r k, k ≤ wkf t p e r k ∧ wkf t p e r k ≤ k + r ∧ (wkf t p e r k < k + r → mkw t p e (wkf t p e r k) = true) ∧ ∀ j, k ≤ j → j < wkf t p e r k → mkw t p e j = false
  | 0, k => ⟨Nat.le_refl k, Nat.le_refl k, fun h => by rw [wkf] at h; omega, fun j h1 h2 => by rw [wkf] at h2; omega⟩
  | r + 1, k => by
    rw [wkf]
    by_cases c : mkw t p e k = true
    · rw [if_pos c]; exact ⟨Nat.le_refl k, by omega, fun _ => c, fun j h1 h2 => by omega⟩
    · rw [if_neg c]
      obtain ⟨h1, h2, h3, h4⟩ := wkf_le t p e r (k + 1)
      refine ⟨by omega, by omega, fun h => h3 (by omega), fun j g1 g2 => ?_⟩
      by_cases e2 : j = k
      · rw [e2]; simpa using c
      · exact h4 j (by omega) g2
theorem wst_inj : ∀ a, a < 12 → ∀ b, b < 12 → wst a = wst b → a = b := by decide +kernel
theorem mtw_inj {t : gt_T} {p e a b : Nat} (ha : a < 12) (hb : b < 12) (h1 : mtw t p e a = true) (h2 : mtw t p e b = true) : a = b := by
  unfold mtw at h1 h2
  rw [Bool.and_eq_true, alf_iff, decide_eq_true_eq] at h1 h2
  refine wst_inj a ha b hb (List.ext_getElem (by rw [h1.1, h2.1]) fun i g1 g2 => ?_)
  have e1 := of_decide_eq_true (h1.2 i (Nat.zero_le _) (by omega))
  have e2 := of_decide_eq_true (h2.2 i (Nat.zero_le _) (by omega))
  rw [List.getD_eq_getElem?_getD, List.getElem?_eq_getElem g1] at e1
  rw [List.getD_eq_getElem?_getD, List.getElem?_eq_getElem g2] at e2
  exact e1.trans e2.symm
theorem wk_kwp : ∀ k, k < 12 → wpk k < 12 ∧ kwp (wpk k) = k ∧ kwp k < 12 ∧ wpk (kwp k) = k := by decide
theorem wk_wx {t : gt_T} {p e : Nat} (h : ∀ i, p ≤ i → i < e → tIsL (t.2 i) = true) (h256 : ∀ i, p ≤ i → i < e → t.2 i < 256) : wkf t p e 12 0 = kwp (wx t p e) := by
  obtain ⟨-, a2, a3, a4⟩ := wkf_le t p e 12 0
  obtain ⟨-, b2, b3, b4⟩ := wxf_le t p e 12 0
  rw [Nat.zero_add] at a2 a3 b2 b3
  change wx t p e ≤ 12 at b2
  change wx t p e < 12 → mtw t p e (wx t p e) = true at b3
  have e12 : kwp 12 = 12 := by decide
  rcases Nat.lt_or_ge (wkf t p e 12 0) 12 with c | c
  · have m1 := a3 c
    rw [mkw_eq c h h256] at m1
    have g := wk_kwp _ c
    rcases Nat.lt_or_ge (wx t p e) 12 with d | d
    · rw [← mtw_inj g.1 d m1 (b3 d)]; exact g.2.1.symm
    · rw [b4 _ (Nat.zero_le _) (by show _ < wx t p e; omega)] at m1; cases m1
  · have c2 : wkf t p e 12 0 = 12 := by omega
    rw [c2]
    rcases Nat.lt_or_ge (wx t p e) 12 with d | d
    · have m1 := b3 d
      have g := wk_kwp _ d
      have m2 := a4 (kwp (wx t p e)) (Nat.zero_le _) (by omega)
      rw [mkw_eq g.2.2.1 h h256, g.2.2.2, m1] at m2; cases m2
    · have d2 : wx t p e = 12 := by omega
      rw [d2, e12]
/-- a token as the other side keeps it -/
def rtk (c : Nat) : Int32 := if c = 3 then -1 else if c < 4 then nI c else if c < 7 then 3 else if c < 10 then nI (c - 3) else nI c
def LXM (σ : qm_St) (L : Nat × Nat × Nat × Nat) : Prop := qm_rI σ 37 = nI L.1 ∧ qm_rI σ 38 = rtk L.2.1 ∧ ((L.2.1 = 1 ∨ L.2.1 = 2) → qm_rI σ 39 = nI L.2.2.1) ∧ ((4 ≤ L.2.1 ∧ L.2.1 < 7) → qm_rI σ 39 = nI (L.2.1 - 4)) ∧ (L.2.1 ≠ 3 → qm_rI σ 36 = nI L.2.2.2)
theorem in_nI {c a b : Nat} (hc : c < 256) (ha : a < 256) (hb : b < 256) : tn_in (nI c) (nI a) (nI b) = (decide (a ≤ c) && decide (c ≤ b)) := by
  rw [Bool.eq_iff_iff, Bool.and_eq_true, decide_eq_true_eq, decide_eq_true_eq]
  unfold tn_in
  rw [decide_eq_true_eq, nI_leI (by omega) (by omega), nI_leI (by omega) (by omega)]
theorem k_inL {lay : List qm_LE} (σ : qm_St) {c : Nat} (hc : c < 256) : Ok lay 0 mX9_in [.int (nI c), .int 97, .int 122] σ (some (.int (b2i (tIsL c)))) σ := by
  have h := k_in (lay := lay) σ (nI c) (nI 97) (nI 122)
  rw [in_nI hc (by decide) (by decide)] at h
  exact h
theorem k_inD {lay : List qm_LE} (σ : qm_St) {c : Nat} (hc : c < 256) : Ok lay 0 mX9_in [.int (nI c), .int 48, .int 57] σ (some (.int (b2i (tIsD c)))) σ := by
  have h := k_in (lay := lay) σ (nI c) (nI 48) (nI 57)
  rw [in_nI hc (by decide) (by decide)] at h
  exact h

set_option maxRecDepth 8000 in
set_option maxHeartbeats 2000000 in
theorem l_wf0 {t : gt_T} (hk : gt_ok t) {σ : qm_St} (hP : PM σ t) (hW : KW σ) {p e : Nat} (hpe : p ≤ e) (he : e ≤ t.1) {k : Nat} {v : Option Value} {τ : qm_St} {j : Nat} (hj : j ≤ 8) (hz : Ex qm_lay 0 mX9_wordFrom 88 [some (.ref 55), some (.int (nI p)), some (.int (nI e)), some (.int (nI k)), some (.int 0), some (.int (nI j))] [] σ v τ) : Ex qm_lay 0 mX9_wordFrom 26 [some (.ref 55), some (.int (nI p)), some (.int (nI e)), some (.int (nI k)), some (.int 0), some (.int (nI j))] [] σ v τ := by
  refine ex_iload dX9_wordFrom_26 rfl rfl ?_
  refine ex_bipush (x := 8) dX9_wordFrom_28 rfl rfl ?_
  refine ex_icmp_ge (q := 88) (q2 := 33) dX9_wordFrom_30 rfl rfl (fun h30 => ?_) (fun h30 => ?_)
  · have n30 : 8 ≤ j := (nI_leI (a := 8) (b := j) (by omega) (by omega)).mp h30
    exact hz
  · have n30 : ¬ 8 ≤ j := mt (nI_leI (a := 8) (b := j) (by omega) (by omega)).mpr h30
    refine ex_iload dX9_wordFrom_33 rfl rfl ?_
    refine ex_if_eq (q := 88) (q2 := 38) dX9_wordFrom_35 rfl rfl (fun _ => ?_) (fun hh => absurd (by decide) hh)
    exact hz

set_option maxRecDepth 8000 in
set_option maxHeartbeats 2000000 in
theorem l_wf1 {t : gt_T} (hk : gt_ok t) {σ : qm_St} (hP : PM σ t) (hW : KW σ) {p e : Nat} (hpe : p ≤ e) (he : e ≤ t.1) {k : Nat} (hk12 : k < 12) {v : Option Value} {τ : qm_St} : ∀ (r j : Nat), j + r = 8 → (∀ x : Nat, Ex qm_lay 0 mX9_wordFrom 88 [some (.ref 55), some (.int (nI p)), some (.int (nI e)), some (.int (nI k)), some (.int (b2i (alf (fun j => decide (kwL.getD (8 * k + j) 0 = if p + j < e then nI (t.2 (p + j)) else 32)) r j))), some (.int (nI x))] [] σ v τ) → Ex qm_lay 0 mX9_wordFrom 26 [some (.ref 55), some (.int (nI p)), some (.int (nI e)), some (.int (nI k)), some (.int 1), some (.int (nI j))] [] σ v τ := by
  have h160 := hk.1
  intro r
  induction r with
  | zero =>
    intro j hj hz
    refine ex_iload dX9_wordFrom_26 rfl rfl ?_
    refine ex_bipush (x := 8) dX9_wordFrom_28 rfl rfl ?_
    refine ex_icmp_ge (q := 88) (q2 := 33) dX9_wordFrom_30 rfl rfl (fun _ => ?_) (fun hh => absurd (nI_le (a := 8) (b := j) (by omega) (by omega)) hh)
    exact hz _
  | succ r ih =>
    intro j hj hz
    have e0 : alf (fun j => decide (kwL.getD (8 * k + j) 0 = if p + j < e then nI (t.2 (p + j)) else 32)) (r + 1) j = (decide (kwL.getD (8 * k + j) 0 = if p + j < e then nI (t.2 (p + j)) else 32) && alf (fun j => decide (kwL.getD (8 * k + j) 0 = if p + j < e then nI (t.2 (p + j)) else 32)) r (j + 1)) := rfl
    by_cases c1 : p + j < e
    · rw [if_pos c1] at e0
      by_cases c2 : kwL.getD (8 * k + j) 0 = nI (t.2 (p + j))
      · rw [decide_eq_true c2, Bool.true_and] at e0
        rw [e0] at hz
        refine ex_iload dX9_wordFrom_26 rfl rfl ?_
        refine ex_bipush (x := 8) dX9_wordFrom_28 rfl rfl ?_
        refine ex_icmp_ge (q := 88) (q2 := 33) dX9_wordFrom_30 rfl rfl (fun hh => absurd hh (nI_ge (a := j) (b := 8) (by omega) (by omega))) (fun _ => ?_)
        refine ex_iload dX9_wordFrom_33 rfl rfl ?_
        refine ex_if_eq (q := 88) (q2 := 38) dX9_wordFrom_35 rfl rfl (fun hh => absurd hh (by decide)) (fun _ => ?_)
        refine ex_aload_n dX9_wordFrom_38 rfl rfl ?_
        refine ex_getR (b := 69) dX9_wordFrom_39 rfl qp_8_49 rfl rfl ?_
        refine ex_bipush (x := 8) dX9_wordFrom_42 rfl rfl ?_
        refine ex_iload_n dX9_wordFrom_44 rfl rfl ?_
        refine ex_imul (z := nI (8 * k)) dX9_wordFrom_45 rfl (pk_mul 8 k) ?_
        refine ex_iload dX9_wordFrom_46 rfl rfl ?_
        refine ex_iadd (z := nI ((8 * k) + j)) dX9_wordFrom_48 rfl (nI_add (8 * k) j) ?_
        refine ex_iaload (k := (8 * k) + j) (x := kwL.getD (8 * k + j) 0) dX9_wordFrom_49 rfl rfl (rfl) (by omega) (by decide) (kw_at hW (by omega)) ?_
        refine ex_iload_n dX9_wordFrom_50 rfl rfl ?_
        refine ex_iload dX9_wordFrom_51 rfl rfl ?_
        refine ex_iadd (z := nI (p + j)) dX9_wordFrom_53 rfl (nI_add p j) ?_
        refine ex_iload_n dX9_wordFrom_54 rfl rfl ?_
        refine ex_icmp_ge (q := 70) (q2 := 58) dX9_wordFrom_55 rfl rfl (fun hh => absurd hh (nI_ge (a := (p + j)) (b := e) (by omega) (by omega))) (fun _ => ?_)
        refine ex_aload_n dX9_wordFrom_58 rfl rfl ?_
        refine ex_getR (b := 61) dX9_wordFrom_59 rfl qp_8_25 rfl rfl ?_
        refine ex_iload_n dX9_wordFrom_62 rfl rfl ?_
        refine ex_iload dX9_wordFrom_63 rfl rfl ?_
        refine ex_iadd (z := nI (p + j)) dX9_wordFrom_65 rfl (nI_add p j) ?_
        refine ex_iaload (k := p + j) (x := nI (t.2 (p + j))) dX9_wordFrom_66 rfl rfl (rfl) (by omega) (by decide) (hP.2 _ (by omega)) ?_
        refine ex_goto (q := 72) dX9_wordFrom_67 rfl ?_
        refine ex_icmp_ne (q := 79) (q2 := 75) dX9_wordFrom_72 rfl rfl (fun hh => absurd hh (fun zz => zz c2)) (fun _ => ?_)
        refine ex_iconst (x := 1) dX9_wordFrom_75 rfl rfl ?_
        refine ex_goto (q := 80) dX9_wordFrom_76 rfl ?_
        refine ex_istore (ls' := [some (.ref 55), some (.int (nI p)), some (.int (nI e)), some (.int (nI k)), some (.int 1), some (.int (nI j))]) dX9_wordFrom_80 rfl (Nat.le_of_ble_eq_true rfl) rfl rfl ?_
        refine ex_iinc (y := nI (j + 1)) (ls' := [some (.ref 55), some (.int (nI p)), some (.int (nI e)), some (.int (nI k)), some (.int 1), some (.int (nI (j + 1)))]) dX9_wordFrom_82 rfl rfl rfl (nI_add j 1) rfl ?_
        refine ex_goto (q := 26) dX9_wordFrom_85 rfl ?_
        exact ih (j + 1) (by omega) hz
      · rw [decide_eq_false c2, Bool.false_and] at e0
        rw [e0] at hz
        refine ex_iload dX9_wordFrom_26 rfl rfl ?_
        refine ex_bipush (x := 8) dX9_wordFrom_28 rfl rfl ?_
        refine ex_icmp_ge (q := 88) (q2 := 33) dX9_wordFrom_30 rfl rfl (fun hh => absurd hh (nI_ge (a := j) (b := 8) (by omega) (by omega))) (fun _ => ?_)
        refine ex_iload dX9_wordFrom_33 rfl rfl ?_
        refine ex_if_eq (q := 88) (q2 := 38) dX9_wordFrom_35 rfl rfl (fun hh => absurd hh (by decide)) (fun _ => ?_)
        refine ex_aload_n dX9_wordFrom_38 rfl rfl ?_
        refine ex_getR (b := 69) dX9_wordFrom_39 rfl qp_8_49 rfl rfl ?_
        refine ex_bipush (x := 8) dX9_wordFrom_42 rfl rfl ?_
        refine ex_iload_n dX9_wordFrom_44 rfl rfl ?_
        refine ex_imul (z := nI (8 * k)) dX9_wordFrom_45 rfl (pk_mul 8 k) ?_
        refine ex_iload dX9_wordFrom_46 rfl rfl ?_
        refine ex_iadd (z := nI ((8 * k) + j)) dX9_wordFrom_48 rfl (nI_add (8 * k) j) ?_
        refine ex_iaload (k := (8 * k) + j) (x := kwL.getD (8 * k + j) 0) dX9_wordFrom_49 rfl rfl (rfl) (by omega) (by decide) (kw_at hW (by omega)) ?_
        refine ex_iload_n dX9_wordFrom_50 rfl rfl ?_
        refine ex_iload dX9_wordFrom_51 rfl rfl ?_
        refine ex_iadd (z := nI (p + j)) dX9_wordFrom_53 rfl (nI_add p j) ?_
        refine ex_iload_n dX9_wordFrom_54 rfl rfl ?_
        refine ex_icmp_ge (q := 70) (q2 := 58) dX9_wordFrom_55 rfl rfl (fun hh => absurd hh (nI_ge (a := (p + j)) (b := e) (by omega) (by omega))) (fun _ => ?_)
        refine ex_aload_n dX9_wordFrom_58 rfl rfl ?_
        refine ex_getR (b := 61) dX9_wordFrom_59 rfl qp_8_25 rfl rfl ?_
        refine ex_iload_n dX9_wordFrom_62 rfl rfl ?_
        refine ex_iload dX9_wordFrom_63 rfl rfl ?_
        refine ex_iadd (z := nI (p + j)) dX9_wordFrom_65 rfl (nI_add p j) ?_
        refine ex_iaload (k := p + j) (x := nI (t.2 (p + j))) dX9_wordFrom_66 rfl rfl (rfl) (by omega) (by decide) (hP.2 _ (by omega)) ?_
        refine ex_goto (q := 72) dX9_wordFrom_67 rfl ?_
        refine ex_icmp_ne (q := 79) (q2 := 75) dX9_wordFrom_72 rfl rfl (fun _ => ?_) (fun hh => absurd (c2) hh)
        refine ex_iconst (x := 0) dX9_wordFrom_79 rfl rfl ?_
        refine ex_istore (ls' := [some (.ref 55), some (.int (nI p)), some (.int (nI e)), some (.int (nI k)), some (.int 0), some (.int (nI j))]) dX9_wordFrom_80 rfl (Nat.le_of_ble_eq_true rfl) rfl rfl ?_
        refine ex_iinc (y := nI (j + 1)) (ls' := [some (.ref 55), some (.int (nI p)), some (.int (nI e)), some (.int (nI k)), some (.int 0), some (.int (nI (j + 1)))]) dX9_wordFrom_82 rfl rfl rfl (nI_add j 1) rfl ?_
        refine ex_goto (q := 26) dX9_wordFrom_85 rfl ?_
        exact l_wf0 hk hP hW hpe he (by omega) (hz _)
    · rw [if_neg c1] at e0
      by_cases c2 : kwL.getD (8 * k + j) 0 = 32
      · rw [decide_eq_true c2, Bool.true_and] at e0
        rw [e0] at hz
        refine ex_iload dX9_wordFrom_26 rfl rfl ?_
        refine ex_bipush (x := 8) dX9_wordFrom_28 rfl rfl ?_
        refine ex_icmp_ge (q := 88) (q2 := 33) dX9_wordFrom_30 rfl rfl (fun hh => absurd hh (nI_ge (a := j) (b := 8) (by omega) (by omega))) (fun _ => ?_)
        refine ex_iload dX9_wordFrom_33 rfl rfl ?_
        refine ex_if_eq (q := 88) (q2 := 38) dX9_wordFrom_35 rfl rfl (fun hh => absurd hh (by decide)) (fun _ => ?_)
        refine ex_aload_n dX9_wordFrom_38 rfl rfl ?_
        refine ex_getR (b := 69) dX9_wordFrom_39 rfl qp_8_49 rfl rfl ?_
        refine ex_bipush (x := 8) dX9_wordFrom_42 rfl rfl ?_
        refine ex_iload_n dX9_wordFrom_44 rfl rfl ?_
        refine ex_imul (z := nI (8 * k)) dX9_wordFrom_45 rfl (pk_mul 8 k) ?_
        refine ex_iload dX9_wordFrom_46 rfl rfl ?_
        refine ex_iadd (z := nI ((8 * k) + j)) dX9_wordFrom_48 rfl (nI_add (8 * k) j) ?_
        refine ex_iaload (k := (8 * k) + j) (x := kwL.getD (8 * k + j) 0) dX9_wordFrom_49 rfl rfl (rfl) (by omega) (by decide) (kw_at hW (by omega)) ?_
        refine ex_iload_n dX9_wordFrom_50 rfl rfl ?_
        refine ex_iload dX9_wordFrom_51 rfl rfl ?_
        refine ex_iadd (z := nI (p + j)) dX9_wordFrom_53 rfl (nI_add p j) ?_
        refine ex_iload_n dX9_wordFrom_54 rfl rfl ?_
        refine ex_icmp_ge (q := 70) (q2 := 58) dX9_wordFrom_55 rfl rfl (fun _ => ?_) (fun hh => absurd (nI_le (a := e) (b := (p + j)) (by omega) (by omega)) hh)
        refine ex_bipush (x := 32) dX9_wordFrom_70 rfl rfl ?_
        refine ex_icmp_ne (q := 79) (q2 := 75) dX9_wordFrom_72 rfl rfl (fun hh => absurd hh (fun zz => zz c2)) (fun _ => ?_)
        refine ex_iconst (x := 1) dX9_wordFrom_75 rfl rfl ?_
        refine ex_goto (q := 80) dX9_wordFrom_76 rfl ?_
        refine ex_istore (ls' := [some (.ref 55), some (.int (nI p)), some (.int (nI e)), some (.int (nI k)), some (.int 1), some (.int (nI j))]) dX9_wordFrom_80 rfl (Nat.le_of_ble_eq_true rfl) rfl rfl ?_
        refine ex_iinc (y := nI (j + 1)) (ls' := [some (.ref 55), some (.int (nI p)), some (.int (nI e)), some (.int (nI k)), some (.int 1), some (.int (nI (j + 1)))]) dX9_wordFrom_82 rfl rfl rfl (nI_add j 1) rfl ?_
        refine ex_goto (q := 26) dX9_wordFrom_85 rfl ?_
        exact ih (j + 1) (by omega) hz
      · rw [decide_eq_false c2, Bool.false_and] at e0
        rw [e0] at hz
        refine ex_iload dX9_wordFrom_26 rfl rfl ?_
        refine ex_bipush (x := 8) dX9_wordFrom_28 rfl rfl ?_
        refine ex_icmp_ge (q := 88) (q2 := 33) dX9_wordFrom_30 rfl rfl (fun hh => absurd hh (nI_ge (a := j) (b := 8) (by omega) (by omega))) (fun _ => ?_)
        refine ex_iload dX9_wordFrom_33 rfl rfl ?_
        refine ex_if_eq (q := 88) (q2 := 38) dX9_wordFrom_35 rfl rfl (fun hh => absurd hh (by decide)) (fun _ => ?_)
        refine ex_aload_n dX9_wordFrom_38 rfl rfl ?_
        refine ex_getR (b := 69) dX9_wordFrom_39 rfl qp_8_49 rfl rfl ?_
        refine ex_bipush (x := 8) dX9_wordFrom_42 rfl rfl ?_
        refine ex_iload_n dX9_wordFrom_44 rfl rfl ?_
        refine ex_imul (z := nI (8 * k)) dX9_wordFrom_45 rfl (pk_mul 8 k) ?_
        refine ex_iload dX9_wordFrom_46 rfl rfl ?_
        refine ex_iadd (z := nI ((8 * k) + j)) dX9_wordFrom_48 rfl (nI_add (8 * k) j) ?_
        refine ex_iaload (k := (8 * k) + j) (x := kwL.getD (8 * k + j) 0) dX9_wordFrom_49 rfl rfl (rfl) (by omega) (by decide) (kw_at hW (by omega)) ?_
        refine ex_iload_n dX9_wordFrom_50 rfl rfl ?_
        refine ex_iload dX9_wordFrom_51 rfl rfl ?_
        refine ex_iadd (z := nI (p + j)) dX9_wordFrom_53 rfl (nI_add p j) ?_
        refine ex_iload_n dX9_wordFrom_54 rfl rfl ?_
        refine ex_icmp_ge (q := 70) (q2 := 58) dX9_wordFrom_55 rfl rfl (fun _ => ?_) (fun hh => absurd (nI_le (a := e) (b := (p + j)) (by omega) (by omega)) hh)
        refine ex_bipush (x := 32) dX9_wordFrom_70 rfl rfl ?_
        refine ex_icmp_ne (q := 79) (q2 := 75) dX9_wordFrom_72 rfl rfl (fun _ => ?_) (fun hh => absurd (c2) hh)
        refine ex_iconst (x := 0) dX9_wordFrom_79 rfl rfl ?_
        refine ex_istore (ls' := [some (.ref 55), some (.int (nI p)), some (.int (nI e)), some (.int (nI k)), some (.int 0), some (.int (nI j))]) dX9_wordFrom_80 rfl (Nat.le_of_ble_eq_true rfl) rfl rfl ?_
        refine ex_iinc (y := nI (j + 1)) (ls' := [some (.ref 55), some (.int (nI p)), some (.int (nI e)), some (.int (nI k)), some (.int 0), some (.int (nI (j + 1)))]) dX9_wordFrom_82 rfl rfl rfl (nI_add j 1) rfl ?_
        refine ex_goto (q := 26) dX9_wordFrom_85 rfl ?_
        exact l_wf0 hk hP hW hpe he (by omega) (hz _)

set_option maxRecDepth 8000 in
set_option maxHeartbeats 2000000 in
theorem l_wf {t : gt_T} (hk : gt_ok t) {σ : qm_St} (hP : PM σ t) (hW : KW σ) {p e : Nat} (hpe : p ≤ e) (he : e ≤ t.1) : ∀ (r k : Nat) (x y : Option Value), k + r = 12 → qm_free [none, none, none, none, x, y] 4 = true → qm_free [none, none, none, none, none, y] 5 = true → Ex qm_lay 0 mX9_wordFrom 2 [some (.ref 55), some (.int (nI p)), some (.int (nI e)), some (.int (nI k)), x, y] [] σ (some (.int (nI (wkf t p e r k)))) σ := by
  have h160 := hk.1
  intro r
  induction r with
  | zero =>
    intro k x y hk2 hf1 hf2
    refine ex_iload_n dX9_wordFrom_2 rfl rfl ?_
    refine ex_bipush (x := 12) dX9_wordFrom_3 rfl rfl ?_
    refine ex_icmp_ge (q := 101) (q2 := 8) dX9_wordFrom_5 rfl rfl (fun _ => ?_) (fun hh => absurd (nI_le (a := 12) (b := k) (by omega) (by omega)) hh)
    refine ex_bipush (x := 12) dX9_wordFrom_101 rfl rfl ?_
    exact ex_iret dX9_wordFrom_103 rfl (congrArg (fun x => some (Value.int (nI x))) (show 12 = wkf t p e 0 k by rw [wkf]; omega)) rfl
  | succ r ih =>
    intro k x y hk2 hf1 hf2
    have hk12 : k < 12 := by omega
    rw [wkf]
    by_cases c8 : e - p ≤ 8
    · by_cases c : alf (fun j => decide (kwL.getD (8 * k + j) 0 = if p + j < e then nI (t.2 (p + j)) else 32)) 8 0 = true
      · rw [if_pos (show mkw t p e k = true by unfold mkw; rw [decide_eq_true c8, c]; rfl)]
        refine ex_iload_n dX9_wordFrom_2 rfl rfl ?_
        refine ex_bipush (x := 12) dX9_wordFrom_3 rfl rfl ?_
        refine ex_icmp_ge (q := 101) (q2 := 8) dX9_wordFrom_5 rfl rfl (fun hh => absurd hh (nI_ge (a := k) (b := 12) (by omega) (by omega))) (fun _ => ?_)
        refine ex_iload_n dX9_wordFrom_8 rfl rfl ?_
        refine ex_iload_n dX9_wordFrom_9 rfl rfl ?_
        refine ex_isub (z := nI (e - p)) dX9_wordFrom_10 rfl (pk_sub hpe) ?_
        refine ex_bipush (x := 8) dX9_wordFrom_11 rfl rfl ?_
        refine ex_icmp_gt (q := 20) (q2 := 16) dX9_wordFrom_13 rfl rfl (fun hh => absurd hh (nI_nlt (a := 8) (b := (e - p)) (by omega) (by omega))) (fun _ => ?_)
        refine ex_iconst (x := 1) dX9_wordFrom_16 rfl rfl ?_
        refine ex_goto (q := 21) dX9_wordFrom_17 rfl ?_
        refine ex_istore (ls' := [some (.ref 55), some (.int (nI p)), some (.int (nI e)), some (.int (nI k)), some (.int 1), y]) dX9_wordFrom_21 rfl (Nat.le_of_ble_eq_true rfl) rfl rfl ?_
        refine ex_iconst (x := 0) dX9_wordFrom_23 rfl rfl ?_
        refine ex_istore (ls' := [some (.ref 55), some (.int (nI p)), some (.int (nI e)), some (.int (nI k)), some (.int 1), some (.int 0)]) dX9_wordFrom_24 rfl (Nat.le_of_ble_eq_true rfl) rfl rfl ?_
        refine l_wf1 hk hP hW hpe he hk12 8 0 rfl (fun x => ?_)
        rw [c]
        refine ex_iload dX9_wordFrom_88 rfl rfl ?_
        refine ex_if_eq (q := 95) (q2 := 93) dX9_wordFrom_90 rfl rfl (fun hh => absurd hh (by decide)) (fun _ => ?_)
        refine ex_iload_n dX9_wordFrom_93 rfl rfl ?_
        exact ex_iret dX9_wordFrom_94 rfl rfl rfl
      · rw [if_neg (show ¬ mkw t p e k = true by unfold mkw; rw [decide_eq_true c8, Bool.true_and]; exact c)]
        refine ex_iload_n dX9_wordFrom_2 rfl rfl ?_
        refine ex_bipush (x := 12) dX9_wordFrom_3 rfl rfl ?_
        refine ex_icmp_ge (q := 101) (q2 := 8) dX9_wordFrom_5 rfl rfl (fun hh => absurd hh (nI_ge (a := k) (b := 12) (by omega) (by omega))) (fun _ => ?_)
        refine ex_iload_n dX9_wordFrom_8 rfl rfl ?_
        refine ex_iload_n dX9_wordFrom_9 rfl rfl ?_
        refine ex_isub (z := nI (e - p)) dX9_wordFrom_10 rfl (pk_sub hpe) ?_
        refine ex_bipush (x := 8) dX9_wordFrom_11 rfl rfl ?_
        refine ex_icmp_gt (q := 20) (q2 := 16) dX9_wordFrom_13 rfl rfl (fun hh => absurd hh (nI_nlt (a := 8) (b := (e - p)) (by omega) (by omega))) (fun _ => ?_)
        refine ex_iconst (x := 1) dX9_wordFrom_16 rfl rfl ?_
        refine ex_goto (q := 21) dX9_wordFrom_17 rfl ?_
        refine ex_istore (ls' := [some (.ref 55), some (.int (nI p)), some (.int (nI e)), some (.int (nI k)), some (.int 1), y]) dX9_wordFrom_21 rfl (Nat.le_of_ble_eq_true rfl) rfl rfl ?_
        refine ex_iconst (x := 0) dX9_wordFrom_23 rfl rfl ?_
        refine ex_istore (ls' := [some (.ref 55), some (.int (nI p)), some (.int (nI e)), some (.int (nI k)), some (.int 1), some (.int 0)]) dX9_wordFrom_24 rfl (Nat.le_of_ble_eq_true rfl) rfl rfl ?_
        refine l_wf1 hk hP hW hpe he hk12 8 0 rfl (fun x => ?_)
        rw [show alf (fun j => decide (kwL.getD (8 * k + j) 0 = if p + j < e then nI (t.2 (p + j)) else 32)) 8 0 = false by simpa using c]
        refine ex_iload dX9_wordFrom_88 rfl rfl ?_
        refine ex_if_eq (q := 95) (q2 := 93) dX9_wordFrom_90 rfl rfl (fun _ => ?_) (fun hh => absurd (by decide) hh)
        refine ex_iinc (y := nI (k + 1)) (ls' := [some (.ref 55), some (.int (nI p)), some (.int (nI e)), some (.int (nI (k + 1))), some (.int 0), some (.int (nI x))]) dX9_wordFrom_95 rfl rfl rfl (nI_add k 1) rfl ?_
        refine ex_goto (q := 2) dX9_wordFrom_98 rfl ?_
        exact ih (k + 1) _ _ (by omega) rfl rfl
    · rw [if_neg (show ¬ mkw t p e k = true by unfold mkw; rw [decide_eq_false c8, Bool.false_and]; decide)]
      refine ex_iload_n dX9_wordFrom_2 rfl rfl ?_
      refine ex_bipush (x := 12) dX9_wordFrom_3 rfl rfl ?_
      refine ex_icmp_ge (q := 101) (q2 := 8) dX9_wordFrom_5 rfl rfl (fun hh => absurd hh (nI_ge (a := k) (b := 12) (by omega) (by omega))) (fun _ => ?_)
      refine ex_iload_n dX9_wordFrom_8 rfl rfl ?_
      refine ex_iload_n dX9_wordFrom_9 rfl rfl ?_
      refine ex_isub (z := nI (e - p)) dX9_wordFrom_10 rfl (pk_sub hpe) ?_
      refine ex_bipush (x := 8) dX9_wordFrom_11 rfl rfl ?_
      refine ex_icmp_gt (q := 20) (q2 := 16) dX9_wordFrom_13 rfl rfl (fun _ => ?_) (fun hh => absurd (nI_lt (a := 8) (b := (e - p)) (by omega) (by omega)) hh)
      refine ex_iconst (x := 0) dX9_wordFrom_20 rfl rfl ?_
      refine ex_istore (ls' := [some (.ref 55), some (.int (nI p)), some (.int (nI e)), some (.int (nI k)), some (.int 0), y]) dX9_wordFrom_21 rfl (Nat.le_of_ble_eq_true rfl) rfl rfl ?_
      refine ex_iconst (x := 0) dX9_wordFrom_23 rfl rfl ?_
      refine ex_istore (ls' := [some (.ref 55), some (.int (nI p)), some (.int (nI e)), some (.int (nI k)), some (.int 0), some (.int 0)]) dX9_wordFrom_24 rfl (Nat.le_of_ble_eq_true rfl) rfl rfl ?_
      refine l_wf0 hk hP hW hpe he (j := 0) (by omega) ?_
      refine ex_iload dX9_wordFrom_88 rfl rfl ?_
      refine ex_if_eq (q := 95) (q2 := 93) dX9_wordFrom_90 rfl rfl (fun _ => ?_) (fun hh => absurd (by decide) hh)
      refine ex_iinc (y := nI (k + 1)) (ls' := [some (.ref 55), some (.int (nI p)), some (.int (nI e)), some (.int (nI (k + 1))), some (.int 0), some (.int (nI 0))]) dX9_wordFrom_95 rfl rfl rfl (nI_add k 1) rfl ?_
      refine ex_goto (q := 2) dX9_wordFrom_98 rfl ?_
      exact ih (k + 1) _ _ (by omega) rfl rfl

theorem k_wordFrom {t : gt_T} (hk : gt_ok t) {σ : qm_St} (hP : PM σ t) (hW : KW σ) {p e : Nat} (hpe : p ≤ e) (he : e ≤ t.1)  : Ok qm_lay 0 mX9_wordFrom [.ref 55, .int (nI p), .int (nI e)] σ (some (.int (nI (wkf t p e 12 0)))) σ := by
  refine Ok.of (ls := [some (.ref 55), some (.int (nI p)), some (.int (nI e)), none, none, none]) (Nat.le_of_ble_eq_true rfl) rfl ?_
  refine ex_iconst (x := 0) dX9_wordFrom_0 rfl rfl ?_
  refine ex_istore_n (ls' := [some (.ref 55), some (.int (nI p)), some (.int (nI e)), some (.int 0), none, none]) dX9_wordFrom_1 rfl (Nat.le_of_ble_eq_true rfl) rfl rfl ?_
  exact l_wf hk hP hW hpe he 12 0 _ _ rfl rfl rfl

set_option maxRecDepth 8000 in
set_option maxHeartbeats 2000000 in
theorem l_nw146 {t : gt_T} (hk : gt_ok t) {p e : Nat} (hpe : p ≤ e) (he : e ≤ t.1) (hL : ∀ i, p ≤ i → i < e → tIsL (t.2 i) = true) {σ1 : qm_St} (hP : PM σ1 t) (hW : KW σ1) (h36 : qm_rI σ1 36 = nI e) (h37 : qm_rI σ1 37 = nI p) : ∃ σ', Ex qm_lay 1 mX9_next 146 [some (.ref 55), some (.int (nI (t.2 p))), none] [] σ1 none σ' ∧ (qm_rI σ' 37 = nI p ∧ qm_rI σ' 38 = rtk (if wx t p e < 6 then 2 else if wx t p e < 12 then wx t p e - 2 else 3) ∧ qm_rI σ' 39 = nI (if kwp (wx t p e) < 3 then kwp (wx t p e) else kwp (wx t p e) - 3) ∧ qm_rI σ' 36 = nI e) ∧ sm σ1 σ' 36 40 0 0 := by
  have h160 := hk.1
  have hwx : wx t p e ≤ 12 := (wxf_le t p e 12 0).2.1
  have hO := k_wordFrom hk hP hW hpe he
  rw [wk_wx hL (fun i h1 h2 => hk.2 i (by omega))] at hO
  have hc : wx t p e < 6 ∨ (6 ≤ wx t p e ∧ wx t p e < 9) ∨ (9 ≤ wx t p e ∧ wx t p e < 12) ∨ wx t p e = 12 := by omega
  rcases hc with c | c | c | c
  · have ek : kwp (wx t p e) = wx t p e + 3 := by unfold kwp; rw [if_pos c]
    rw [ek] at hO ⊢
    refine ⟨_, ?_, ⟨?_, ?_, ?_, ?_⟩, ((sm.rf σ1 36 40 0 0).wI (s := 38) 2 (by omega)).wI (s := 39) (nI (wx t p e)) (by omega)⟩
    · refine ex_aload_n dX9_next_146 rfl rfl ?_
      refine ex_aload_n dX9_next_147 rfl rfl ?_
      refine ex_getI (s := 37) (x := nI p) dX9_next_148 rfl qp_8_117 rfl rfl (h37) ?_
      refine ex_aload_n dX9_next_151 rfl rfl ?_
      refine ex_getI (s := 36) (x := nI e) dX9_next_152 rfl qp_8_114 rfl rfl (h36) ?_
      refine ex_callV (a := 55) (rest := []) dX9_next_155 rfl qp_8_126 rfl rfl rfl rfl rfl (Nat.le_of_ble_eq_true rfl) (hO) (Nat.le_of_ble_eq_true rfl) ?_
      show Ex qm_lay _ mX9_next 158 [some (.ref 55), some (.int (nI (t.2 p))), none] [.int (nI (wx t p e + 3))] σ1 _ _
      refine ex_istore_n (ls' := [some (.ref 55), some (.int (nI (t.2 p))), some (.int (nI (wx t p e + 3)))]) dX9_next_158 rfl (Nat.le_of_ble_eq_true rfl) rfl rfl ?_
      refine ex_aload_n dX9_next_159 rfl rfl ?_
      refine ex_iload_n dX9_next_160 rfl rfl ?_
      refine ex_iconst (x := 3) dX9_next_161 rfl rfl ?_
      refine ex_icmp_ge (q := 169) (q2 := 165) dX9_next_162 rfl rfl (fun _ => ?_) (fun hh => absurd (nI_le (a := 3) (b := (wx t p e + 3)) (by omega) (by omega)) hh)
      refine ex_iload_n dX9_next_169 rfl rfl ?_
      refine ex_bipush (x := 9) dX9_next_170 rfl rfl ?_
      refine ex_icmp_ge (q := 179) (q2 := 175) dX9_next_172 rfl rfl (fun hh => absurd hh (nI_ge (a := (wx t p e + 3)) (b := 9) (by omega) (by omega))) (fun _ => ?_)
      refine ex_iconst (x := 2) dX9_next_175 rfl rfl ?_
      refine ex_goto (q := 195) dX9_next_176 rfl ?_
      refine ex_put (σ' := qm_wI σ1 38 2) dX9_next_195 rfl qp_8_120 rfl rfl (Or.inl rfl) rfl ?_
      refine ex_aload_n dX9_next_198 rfl rfl ?_
      refine ex_iload_n dX9_next_199 rfl rfl ?_
      refine ex_iconst (x := 3) dX9_next_200 rfl rfl ?_
      refine ex_icmp_ge (q := 208) (q2 := 204) dX9_next_201 rfl rfl (fun _ => ?_) (fun hh => absurd (nI_le (a := 3) (b := (wx t p e + 3)) (by omega) (by omega)) hh)
      refine ex_iload_n dX9_next_208 rfl rfl ?_
      refine ex_iconst (x := 3) dX9_next_209 rfl rfl ?_
      refine ex_isub (z := nI (wx t p e)) dX9_next_210 rfl ((pk_sub (a := wx t p e + 3) (b := 3) (by omega))) ?_
      refine ex_put (σ' := qm_wI (qm_wI σ1 38 2) 39 (nI (wx t p e))) dX9_next_211 rfl qp_8_123 rfl rfl (Or.inl rfl) rfl ?_
      refine ex_goto (q := 403) dX9_next_214 rfl ?_
      exact ex_vret dX9_next_403 rfl rfl rfl
    · rw [rI_wI, if_neg (by decide), rI_wI, if_neg (by decide)]; exact h37
    · rw [rI_wI, if_neg (by decide), rI_wI, if_pos rfl]; rw [if_pos c]; rfl
    · rw [rI_wI, if_pos rfl]; rw [if_neg (by omega)]; exact congrArg nI (by omega)
    · rw [rI_wI, if_neg (by decide), rI_wI, if_neg (by decide)]; exact h36
  · have ek : kwp (wx t p e) = wx t p e - 6 := by unfold kwp; rw [if_neg (by omega), if_pos c.2]
    rw [ek] at hO ⊢
    refine ⟨_, ?_, ⟨?_, ?_, ?_, ?_⟩, ((sm.rf σ1 36 40 0 0).wI (s := 38) 3 (by omega)).wI (s := 39) (nI (wx t p e - 6)) (by omega)⟩
    · refine ex_aload_n dX9_next_146 rfl rfl ?_
      refine ex_aload_n dX9_next_147 rfl rfl ?_
      refine ex_getI (s := 37) (x := nI p) dX9_next_148 rfl qp_8_117 rfl rfl (h37) ?_
      refine ex_aload_n dX9_next_151 rfl rfl ?_
      refine ex_getI (s := 36) (x := nI e) dX9_next_152 rfl qp_8_114 rfl rfl (h36) ?_
      refine ex_callV (a := 55) (rest := []) dX9_next_155 rfl qp_8_126 rfl rfl rfl rfl rfl (Nat.le_of_ble_eq_true rfl) (hO) (Nat.le_of_ble_eq_true rfl) ?_
      show Ex qm_lay _ mX9_next 158 [some (.ref 55), some (.int (nI (t.2 p))), none] [.int (nI (wx t p e - 6))] σ1 _ _
      refine ex_istore_n (ls' := [some (.ref 55), some (.int (nI (t.2 p))), some (.int (nI (wx t p e - 6)))]) dX9_next_158 rfl (Nat.le_of_ble_eq_true rfl) rfl rfl ?_
      refine ex_aload_n dX9_next_159 rfl rfl ?_
      refine ex_iload_n dX9_next_160 rfl rfl ?_
      refine ex_iconst (x := 3) dX9_next_161 rfl rfl ?_
      refine ex_icmp_ge (q := 169) (q2 := 165) dX9_next_162 rfl rfl (fun hh => absurd hh (nI_ge (a := (wx t p e - 6)) (b := 3) (by omega) (by omega))) (fun _ => ?_)
      refine ex_iconst (x := 3) dX9_next_165 rfl rfl ?_
      refine ex_goto (q := 195) dX9_next_166 rfl ?_
      refine ex_put (σ' := qm_wI σ1 38 3) dX9_next_195 rfl qp_8_120 rfl rfl (Or.inl rfl) rfl ?_
      refine ex_aload_n dX9_next_198 rfl rfl ?_
      refine ex_iload_n dX9_next_199 rfl rfl ?_
      refine ex_iconst (x := 3) dX9_next_200 rfl rfl ?_
      refine ex_icmp_ge (q := 208) (q2 := 204) dX9_next_201 rfl rfl (fun hh => absurd hh (nI_ge (a := (wx t p e - 6)) (b := 3) (by omega) (by omega))) (fun _ => ?_)
      refine ex_iload_n dX9_next_204 rfl rfl ?_
      refine ex_goto (q := 211) dX9_next_205 rfl ?_
      refine ex_put (σ' := qm_wI (qm_wI σ1 38 3) 39 (nI (wx t p e - 6))) dX9_next_211 rfl qp_8_123 rfl rfl (Or.inl rfl) rfl ?_
      refine ex_goto (q := 403) dX9_next_214 rfl ?_
      exact ex_vret dX9_next_403 rfl rfl rfl
    · rw [rI_wI, if_neg (by decide), rI_wI, if_neg (by decide)]; exact h37
    · rw [rI_wI, if_neg (by decide), rI_wI, if_pos rfl]; rw [if_neg (by omega), if_pos (by omega)]; unfold rtk; rw [if_neg (by omega), if_neg (by omega), if_pos (by omega)]
    · rw [rI_wI, if_pos rfl]; rw [if_pos (by omega)]
    · rw [rI_wI, if_neg (by decide), rI_wI, if_neg (by decide)]; exact h36
  · have ek : kwp (wx t p e) = wx t p e := by unfold kwp; rw [if_neg (by omega), if_neg (by omega)]
    rw [ek] at hO ⊢
    refine ⟨_, ?_, ⟨?_, ?_, ?_, ?_⟩, ((sm.rf σ1 36 40 0 0).wI (s := 38) (nI (wx t p e - 5)) (by omega)).wI (s := 39) (nI (wx t p e - 3)) (by omega)⟩
    · refine ex_aload_n dX9_next_146 rfl rfl ?_
      refine ex_aload_n dX9_next_147 rfl rfl ?_
      refine ex_getI (s := 37) (x := nI p) dX9_next_148 rfl qp_8_117 rfl rfl (h37) ?_
      refine ex_aload_n dX9_next_151 rfl rfl ?_
      refine ex_getI (s := 36) (x := nI e) dX9_next_152 rfl qp_8_114 rfl rfl (h36) ?_
      refine ex_callV (a := 55) (rest := []) dX9_next_155 rfl qp_8_126 rfl rfl rfl rfl rfl (Nat.le_of_ble_eq_true rfl) (hO) (Nat.le_of_ble_eq_true rfl) ?_
      show Ex qm_lay _ mX9_next 158 [some (.ref 55), some (.int (nI (t.2 p))), none] [.int (nI (wx t p e))] σ1 _ _
      refine ex_istore_n (ls' := [some (.ref 55), some (.int (nI (t.2 p))), some (.int (nI (wx t p e)))]) dX9_next_158 rfl (Nat.le_of_ble_eq_true rfl) rfl rfl ?_
      refine ex_aload_n dX9_next_159 rfl rfl ?_
      refine ex_iload_n dX9_next_160 rfl rfl ?_
      refine ex_iconst (x := 3) dX9_next_161 rfl rfl ?_
      refine ex_icmp_ge (q := 169) (q2 := 165) dX9_next_162 rfl rfl (fun _ => ?_) (fun hh => absurd (nI_le (a := 3) (b := (wx t p e)) (by omega) (by omega)) hh)
      refine ex_iload_n dX9_next_169 rfl rfl ?_
      refine ex_bipush (x := 9) dX9_next_170 rfl rfl ?_
      refine ex_icmp_ge (q := 179) (q2 := 175) dX9_next_172 rfl rfl (fun _ => ?_) (fun hh => absurd (nI_le (a := 9) (b := (wx t p e)) (by omega) (by omega)) hh)
      refine ex_iload_n dX9_next_179 rfl rfl ?_
      refine ex_bipush (x := 12) dX9_next_180 rfl rfl ?_
      refine ex_icmp_ne (q := 189) (q2 := 185) dX9_next_182 rfl rfl (fun _ => ?_) (fun hh => absurd (fun zz => absurd ((nI_eq (a := (wx t p e)) (b := 12) (by omega) (by omega)).mp zz) (by omega)) hh)
      refine ex_iconst (x := 4) dX9_next_189 rfl rfl ?_
      refine ex_iload_n dX9_next_190 rfl rfl ?_
      refine ex_iadd (z := nI (4 + (wx t p e))) dX9_next_191 rfl (nI_add 4 (wx t p e)) ?_
      refine ex_bipush (x := 9) dX9_next_192 rfl rfl ?_
      refine ex_isub (z := nI (wx t p e - 5)) dX9_next_194 rfl ((by rw [show wx t p e - 5 = 4 + wx t p e - 9 by omega]; exact pk_sub (b := 9) (by omega))) ?_
      refine ex_put (σ' := qm_wI σ1 38 (nI (wx t p e - 5))) dX9_next_195 rfl qp_8_120 rfl rfl (Or.inl rfl) rfl ?_
      refine ex_aload_n dX9_next_198 rfl rfl ?_
      refine ex_iload_n dX9_next_199 rfl rfl ?_
      refine ex_iconst (x := 3) dX9_next_200 rfl rfl ?_
      refine ex_icmp_ge (q := 208) (q2 := 204) dX9_next_201 rfl rfl (fun _ => ?_) (fun hh => absurd (nI_le (a := 3) (b := (wx t p e)) (by omega) (by omega)) hh)
      refine ex_iload_n dX9_next_208 rfl rfl ?_
      refine ex_iconst (x := 3) dX9_next_209 rfl rfl ?_
      refine ex_isub (z := nI (wx t p e - 3)) dX9_next_210 rfl (pk_sub (b := 3) (by omega)) ?_
      refine ex_put (σ' := qm_wI (qm_wI σ1 38 (nI (wx t p e - 5))) 39 (nI (wx t p e - 3))) dX9_next_211 rfl qp_8_123 rfl rfl (Or.inl rfl) rfl ?_
      refine ex_goto (q := 403) dX9_next_214 rfl ?_
      exact ex_vret dX9_next_403 rfl rfl rfl
    · rw [rI_wI, if_neg (by decide), rI_wI, if_neg (by decide)]; exact h37
    · rw [rI_wI, if_neg (by decide), rI_wI, if_pos rfl]; rw [if_neg (by omega), if_pos (by omega)]; unfold rtk; rw [if_neg (by omega), if_neg (by omega), if_neg (by omega), if_pos (by omega)]; exact congrArg nI (by omega)
    · rw [rI_wI, if_pos rfl]; rw [if_neg (by omega)]
    · rw [rI_wI, if_neg (by decide), rI_wI, if_neg (by decide)]; exact h36
  · have ek : kwp (wx t p e) = 12 := by unfold kwp; rw [c]; rfl
    rw [ek] at hO ⊢
    refine ⟨_, ?_, ⟨?_, ?_, ?_, ?_⟩, ((sm.rf σ1 36 40 0 0).wI (s := 38) (-1) (by omega)).wI (s := 39) 9 (by omega)⟩
    · refine ex_aload_n dX9_next_146 rfl rfl ?_
      refine ex_aload_n dX9_next_147 rfl rfl ?_
      refine ex_getI (s := 37) (x := nI p) dX9_next_148 rfl qp_8_117 rfl rfl (h37) ?_
      refine ex_aload_n dX9_next_151 rfl rfl ?_
      refine ex_getI (s := 36) (x := nI e) dX9_next_152 rfl qp_8_114 rfl rfl (h36) ?_
      refine ex_callV (a := 55) (rest := []) dX9_next_155 rfl qp_8_126 rfl rfl rfl rfl rfl (Nat.le_of_ble_eq_true rfl) (hO) (Nat.le_of_ble_eq_true rfl) ?_
      show Ex qm_lay _ mX9_next 158 [some (.ref 55), some (.int (nI (t.2 p))), none] [.int 12] σ1 _ _
      refine ex_istore_n (ls' := [some (.ref 55), some (.int (nI (t.2 p))), some (.int 12)]) dX9_next_158 rfl (Nat.le_of_ble_eq_true rfl) rfl rfl ?_
      refine ex_aload_n dX9_next_159 rfl rfl ?_
      refine ex_iload_n dX9_next_160 rfl rfl ?_
      refine ex_iconst (x := 3) dX9_next_161 rfl rfl ?_
      refine ex_icmp_ge (q := 169) (q2 := 165) dX9_next_162 rfl rfl (fun _ => ?_) (fun hh => absurd (by decide) hh)
      refine ex_iload_n dX9_next_169 rfl rfl ?_
      refine ex_bipush (x := 9) dX9_next_170 rfl rfl ?_
      refine ex_icmp_ge (q := 179) (q2 := 175) dX9_next_172 rfl rfl (fun _ => ?_) (fun hh => absurd (by decide) hh)
      refine ex_iload_n dX9_next_179 rfl rfl ?_
      refine ex_bipush (x := 12) dX9_next_180 rfl rfl ?_
      refine ex_icmp_ne (q := 189) (q2 := 185) dX9_next_182 rfl rfl (fun hh => absurd hh (by decide)) (fun _ => ?_)
      refine ex_iconst (x := (-1)) dX9_next_185 rfl rfl ?_
      refine ex_goto (q := 195) dX9_next_186 rfl ?_
      refine ex_put (σ' := qm_wI σ1 38 (-1)) dX9_next_195 rfl qp_8_120 rfl rfl (Or.inl rfl) rfl ?_
      refine ex_aload_n dX9_next_198 rfl rfl ?_
      refine ex_iload_n dX9_next_199 rfl rfl ?_
      refine ex_iconst (x := 3) dX9_next_200 rfl rfl ?_
      refine ex_icmp_ge (q := 208) (q2 := 204) dX9_next_201 rfl rfl (fun _ => ?_) (fun hh => absurd (by decide) hh)
      refine ex_iload_n dX9_next_208 rfl rfl ?_
      refine ex_iconst (x := 3) dX9_next_209 rfl rfl ?_
      refine ex_isub (z := 9) dX9_next_210 rfl (rfl) ?_
      refine ex_put (σ' := qm_wI (qm_wI σ1 38 (-1)) 39 9) dX9_next_211 rfl qp_8_123 rfl rfl (Or.inl rfl) rfl ?_
      refine ex_goto (q := 403) dX9_next_214 rfl ?_
      exact ex_vret dX9_next_403 rfl rfl rfl
    · rw [rI_wI, if_neg (by decide), rI_wI, if_neg (by decide)]; exact h37
    · rw [rI_wI, if_neg (by decide), rI_wI, if_pos rfl]; rw [c]; rfl
    · rw [rI_wI, if_pos rfl]; rfl
    · rw [rI_wI, if_neg (by decide), rI_wI, if_neg (by decide)]; exact h36

set_option maxRecDepth 8000 in
set_option maxHeartbeats 2000000 in
theorem l_nw103 {t : gt_T} (hk : gt_ok t) {p : Nat} : ∀ (k a : Nat) (σ1 : qm_St), a + k = t.1 → p ≤ a → (∀ i, p ≤ i → i < a → tIsL (t.2 i) = true) → PM σ1 t → KW σ1 → qm_rI σ1 36 = nI a → qm_rI σ1 37 = nI p → ∃ σ', Ex qm_lay 1 mX9_next 103 [some (.ref 55), some (.int (nI (t.2 p))), none] [] σ1 none σ' ∧ (qm_rI σ' 37 = nI p ∧ qm_rI σ' 38 = rtk (if wx t p (rn tIsL t.2 k a) < 6 then 2 else if wx t p (rn tIsL t.2 k a) < 12 then wx t p (rn tIsL t.2 k a) - 2 else 3) ∧ qm_rI σ' 39 = nI (if kwp (wx t p (rn tIsL t.2 k a)) < 3 then kwp (wx t p (rn tIsL t.2 k a)) else kwp (wx t p (rn tIsL t.2 k a)) - 3) ∧ qm_rI σ' 36 = nI (rn tIsL t.2 k a)) ∧ sm σ1 σ' 36 40 0 0 := by
  have h160 := hk.1
  intro k
  induction k with
  | zero =>
    intro a σ1 ha hpa hL hP hW h36 h37
    obtain ⟨σ', hE, hx, hs⟩ := l_nw146 hk hpa (by omega) hL hP hW h36 h37
    refine ⟨σ', ?_, hx, hs⟩
    refine ex_aload_n dX9_next_103 rfl rfl ?_
    refine ex_getI (s := 36) (x := nI a) dX9_next_104 rfl qp_8_114 rfl rfl (h36) ?_
    refine ex_aload_n dX9_next_107 rfl rfl ?_
    refine ex_getI (s := 29) (x := nI t.1) dX9_next_108 rfl qp_8_70 rfl rfl (hP.1) ?_
    refine ex_icmp_ge (q := 146) (q2 := 114) dX9_next_111 rfl rfl (fun _ => ?_) (fun hh => absurd (nI_le (a := t.1) (b := a) (by omega) (by omega)) hh)
    exact hE
  | succ k ih =>
    intro a σ1 ha hpa hL hP hW h36 h37
    by_cases c : tIsL (t.2 a) = true
    · have hg : sm σ1 (qm_wI σ1 36 (nI (a + 1))) 36 40 0 0 := (sm.rf σ1 36 40 0 0).wI _ (by omega)
      obtain ⟨σ', hE, hx, hs⟩ := ih (a + 1) (qm_wI σ1 36 (nI (a + 1))) (by omega) (by omega) (fun i h1 h2 => (by rcases Nat.lt_or_ge i a with q | q; exact hL i h1 q; rw [show i = a by omega]; exact c)) hP hW (by rw [rI_wI, if_pos rfl]) (by rw [rI_wI, if_neg (by decide)]; exact h37)
      rw [show rn tIsL t.2 (k + 1) a = rn tIsL t.2 k (a + 1) by rw [rn, if_pos c]]
      refine ⟨σ', ?_, hx, hg.tr hs⟩
      refine ex_aload_n dX9_next_103 rfl rfl ?_
      refine ex_getI (s := 36) (x := nI a) dX9_next_104 rfl qp_8_114 rfl rfl (h36) ?_
      refine ex_aload_n dX9_next_107 rfl rfl ?_
      refine ex_getI (s := 29) (x := nI t.1) dX9_next_108 rfl qp_8_70 rfl rfl (hP.1) ?_
      refine ex_icmp_ge (q := 146) (q2 := 114) dX9_next_111 rfl rfl (fun hh => absurd hh (nI_ge (a := a) (b := t.1) (by omega) (by omega))) (fun _ => ?_)
      refine ex_aload_n dX9_next_114 rfl rfl ?_
      refine ex_getR (b := 61) dX9_next_115 rfl qp_8_25 rfl rfl ?_
      refine ex_aload_n dX9_next_118 rfl rfl ?_
      refine ex_getI (s := 36) (x := nI a) dX9_next_119 rfl qp_8_114 rfl rfl (h36) ?_
      refine ex_iaload (k := a) (x := nI (t.2 a)) dX9_next_122 rfl rfl (rfl) (by omega) (by decide) (hP.2 _ (by omega)) ?_
      refine ex_bipush (x := 97) dX9_next_123 rfl rfl ?_
      refine ex_bipush (x := 122) dX9_next_125 rfl rfl ?_
      refine ex_callS (rest := []) dX9_next_127 rfl qp_8_81 rfl rfl rfl (Nat.le_of_ble_eq_true rfl) (k_inL _ (hk.2 a (by omega))) (Nat.le_of_ble_eq_true rfl) ?_
      show Ex qm_lay _ mX9_next 130 [some (.ref 55), some (.int (nI (t.2 p))), none] [.int (b2i (tIsL (t.2 a)))] σ1 _ _
      refine ex_if_eq (q := 146) (q2 := 133) dX9_next_130 rfl rfl (fun hh => absurd hh (b2i_n0.mpr (c))) (fun _ => ?_)
      refine ex_aload_n dX9_next_133 rfl rfl ?_
      refine ex_dup dX9_next_134 rfl rfl ?_
      refine ex_getI (s := 36) (x := nI a) dX9_next_135 rfl qp_8_114 rfl rfl (h36) ?_
      refine ex_iconst (x := 1) dX9_next_138 rfl rfl ?_
      refine ex_iadd (z := nI (a + 1)) dX9_next_139 rfl (nI_add a 1) ?_
      refine ex_put (σ' := qm_wI σ1 36 (nI (a + 1))) dX9_next_140 rfl qp_8_114 rfl rfl (Or.inl rfl) rfl ?_
      refine ex_goto (q := 103) dX9_next_143 rfl ?_
      exact hE
    · obtain ⟨σ', hE, hx, hs⟩ := l_nw146 hk hpa (by omega) hL hP hW h36 h37
      rw [show rn tIsL t.2 (k + 1) a = a by rw [rn, if_neg c]]
      refine ⟨σ', ?_, hx, hs⟩
      refine ex_aload_n dX9_next_103 rfl rfl ?_
      refine ex_getI (s := 36) (x := nI a) dX9_next_104 rfl qp_8_114 rfl rfl (h36) ?_
      refine ex_aload_n dX9_next_107 rfl rfl ?_
      refine ex_getI (s := 29) (x := nI t.1) dX9_next_108 rfl qp_8_70 rfl rfl (hP.1) ?_
      refine ex_icmp_ge (q := 146) (q2 := 114) dX9_next_111 rfl rfl (fun hh => absurd hh (nI_ge (a := a) (b := t.1) (by omega) (by omega))) (fun _ => ?_)
      refine ex_aload_n dX9_next_114 rfl rfl ?_
      refine ex_getR (b := 61) dX9_next_115 rfl qp_8_25 rfl rfl ?_
      refine ex_aload_n dX9_next_118 rfl rfl ?_
      refine ex_getI (s := 36) (x := nI a) dX9_next_119 rfl qp_8_114 rfl rfl (h36) ?_
      refine ex_iaload (k := a) (x := nI (t.2 a)) dX9_next_122 rfl rfl (rfl) (by omega) (by decide) (hP.2 _ (by omega)) ?_
      refine ex_bipush (x := 97) dX9_next_123 rfl rfl ?_
      refine ex_bipush (x := 122) dX9_next_125 rfl rfl ?_
      refine ex_callS (rest := []) dX9_next_127 rfl qp_8_81 rfl rfl rfl (Nat.le_of_ble_eq_true rfl) (k_inL _ (hk.2 a (by omega))) (Nat.le_of_ble_eq_true rfl) ?_
      show Ex qm_lay _ mX9_next 130 [some (.ref 55), some (.int (nI (t.2 p))), none] [.int (b2i (tIsL (t.2 a)))] σ1 _ _
      refine ex_if_eq (q := 146) (q2 := 133) dX9_next_130 rfl rfl (fun _ => ?_) (fun hh => absurd (b2i_0.mpr (by simpa using c)) hh)
      exact hE

set_option maxRecDepth 8000 in
set_option maxHeartbeats 2000000 in
theorem l_nd230 {t : gt_T} (hk : gt_ok t) {p : Nat} : ∀ (k a : Nat) (σ1 : qm_St), a + k = t.1 → p ≤ a → PM σ1 t → qm_rI σ1 36 = nI a → qm_rI σ1 37 = nI p → qm_rI σ1 39 = nI (if a - p ≤ 4 then nv t p (a - p) else 0) → ∃ σ', Ex qm_lay 1 mX9_next 230 [some (.ref 55), some (.int (nI (t.2 p))), some (.int (nI (a - p)))] [] σ1 none σ' ∧ (qm_rI σ' 37 = nI p ∧ qm_rI σ' 38 = rtk (if (rn tIsD t.2 k a) - p ≤ 4 then 1 else 3) ∧ ((rn tIsD t.2 k a) - p ≤ 4 → qm_rI σ' 39 = nI (nv t p ((rn tIsD t.2 k a) - p))) ∧ qm_rI σ' 36 = nI (rn tIsD t.2 k a)) ∧ sm σ1 σ' 36 40 0 0 := by
  have h160 := hk.1
  intro k
  induction k with
  | zero =>
    intro a σ1 ha hpa hP h36 h37 h39
    rw [show rn tIsD t.2 0 a = a from rfl]
    by_cases c4 : a - p ≤ 4
    · refine ⟨qm_wI σ1 38 1, ?_, ⟨?_, ?_, fun z => ?_, ?_⟩, (sm.rf σ1 36 40 0 0).wI (s := 38) 1 (by omega)⟩
      · refine ex_aload_n dX9_next_230 rfl rfl ?_
        refine ex_getI (s := 36) (x := nI a) dX9_next_231 rfl qp_8_114 rfl rfl (h36) ?_
        refine ex_aload_n dX9_next_234 rfl rfl ?_
        refine ex_getI (s := 29) (x := nI t.1) dX9_next_235 rfl qp_8_70 rfl rfl (hP.1) ?_
        refine ex_icmp_ge (q := 309) (q2 := 241) dX9_next_238 rfl rfl (fun _ => ?_) (fun hh => absurd (nI_le (a := t.1) (b := a) (by omega) (by omega)) hh)
        refine ex_aload_n dX9_next_309 rfl rfl ?_
        refine ex_iload_n dX9_next_310 rfl rfl ?_
        refine ex_iconst (x := 4) dX9_next_311 rfl rfl ?_
        refine ex_icmp_le (q := 319) (q2 := 315) dX9_next_312 rfl rfl (fun _ => ?_) (fun hh => absurd (nI_le (a := (a - p)) (b := 4) (by omega) (by omega)) hh)
        refine ex_iconst (x := 1) dX9_next_319 rfl rfl ?_
        refine ex_put (σ' := qm_wI σ1 38 1) dX9_next_320 rfl qp_8_120 rfl rfl (Or.inl rfl) rfl ?_
        refine ex_goto (q := 403) dX9_next_323 rfl ?_
        exact ex_vret dX9_next_403 rfl rfl rfl
      · rw [rI_wI, if_neg (by decide)]; exact h37
      · rw [rI_wI, if_pos rfl]; rw [if_pos c4]; rfl
      · rw [rI_wI, if_neg (by decide), h39, if_pos c4]
      · rw [rI_wI, if_neg (by decide)]; exact h36
    · refine ⟨qm_wI σ1 38 (-1), ?_, ⟨?_, ?_, fun z => ?_, ?_⟩, (sm.rf σ1 36 40 0 0).wI (s := 38) (-1) (by omega)⟩
      · refine ex_aload_n dX9_next_230 rfl rfl ?_
        refine ex_getI (s := 36) (x := nI a) dX9_next_231 rfl qp_8_114 rfl rfl (h36) ?_
        refine ex_aload_n dX9_next_234 rfl rfl ?_
        refine ex_getI (s := 29) (x := nI t.1) dX9_next_235 rfl qp_8_70 rfl rfl (hP.1) ?_
        refine ex_icmp_ge (q := 309) (q2 := 241) dX9_next_238 rfl rfl (fun _ => ?_) (fun hh => absurd (nI_le (a := t.1) (b := a) (by omega) (by omega)) hh)
        refine ex_aload_n dX9_next_309 rfl rfl ?_
        refine ex_iload_n dX9_next_310 rfl rfl ?_
        refine ex_iconst (x := 4) dX9_next_311 rfl rfl ?_
        refine ex_icmp_le (q := 319) (q2 := 315) dX9_next_312 rfl rfl (fun hh => absurd hh (nI_ge (a := 4) (b := (a - p)) (by omega) (by omega))) (fun _ => ?_)
        refine ex_iconst (x := (-1)) dX9_next_315 rfl rfl ?_
        refine ex_goto (q := 320) dX9_next_316 rfl ?_
        refine ex_put (σ' := qm_wI σ1 38 (-1)) dX9_next_320 rfl qp_8_120 rfl rfl (Or.inl rfl) rfl ?_
        refine ex_goto (q := 403) dX9_next_323 rfl ?_
        exact ex_vret dX9_next_403 rfl rfl rfl
      · rw [rI_wI, if_neg (by decide)]; exact h37
      · rw [rI_wI, if_pos rfl]; rw [if_neg c4]; rfl
      · exact absurd z c4
      · rw [rI_wI, if_neg (by decide)]; exact h36
  | succ k ih =>
    intro a σ1 ha hpa hP h36 h37 h39
    by_cases c : tIsD (t.2 a) = true
    · have hd : 48 ≤ t.2 a := by
        have z := c
        unfold tIsD at z
        rw [Bool.and_eq_true] at z
        exact of_decide_eq_true z.1
      rw [show rn tIsD t.2 (k + 1) a = rn tIsD t.2 k (a + 1) by rw [rn, if_pos c]]
      by_cases c4 : a - p < 4
      · have env : 10 * (if a - p ≤ 4 then nv t p (a - p) else 0) + t.2 a - 48 = if a + 1 - p ≤ 4 then nv t p (a + 1 - p) else 0 := by
          rw [if_pos (by omega), if_pos (by omega), show a + 1 - p = (a - p) + 1 by omega, nv, show p + (a - p) = a by omega, Nat.mul_comm]
        have hg : sm σ1 (qm_wI (qm_wI σ1 39 (nI (10 * (if a - p ≤ 4 then nv t p (a - p) else 0) + t.2 a - 48))) 36 (nI (a + 1))) 36 40 0 0 := ((sm.rf σ1 36 40 0 0).wI (s := 39) _ (by omega)).wI (s := 36) _ (by omega)
        obtain ⟨σ', hE, hx, hs⟩ := ih (a + 1) (qm_wI (qm_wI σ1 39 (nI (10 * (if a - p ≤ 4 then nv t p (a - p) else 0) + t.2 a - 48))) 36 (nI (a + 1))) (by omega) (by omega) hP (by rw [rI_wI, if_pos rfl]) (by rw [rI_wI, if_neg (by decide), rI_wI, if_neg (by decide)]; exact h37) (by rw [rI_wI, if_neg (by decide), rI_wI, if_pos rfl, ← env])
        refine ⟨σ', ?_, hx, hg.tr hs⟩
        refine ex_aload_n dX9_next_230 rfl rfl ?_
        refine ex_getI (s := 36) (x := nI a) dX9_next_231 rfl qp_8_114 rfl rfl (h36) ?_
        refine ex_aload_n dX9_next_234 rfl rfl ?_
        refine ex_getI (s := 29) (x := nI t.1) dX9_next_235 rfl qp_8_70 rfl rfl (hP.1) ?_
        refine ex_icmp_ge (q := 309) (q2 := 241) dX9_next_238 rfl rfl (fun hh => absurd hh (nI_ge (a := a) (b := t.1) (by omega) (by omega))) (fun _ => ?_)
        refine ex_aload_n dX9_next_241 rfl rfl ?_
        refine ex_getR (b := 61) dX9_next_242 rfl qp_8_25 rfl rfl ?_
        refine ex_aload_n dX9_next_245 rfl rfl ?_
        refine ex_getI (s := 36) (x := nI a) dX9_next_246 rfl qp_8_114 rfl rfl (h36) ?_
        refine ex_iaload (k := a) (x := nI (t.2 a)) dX9_next_249 rfl rfl (rfl) (by omega) (by decide) (hP.2 _ (by omega)) ?_
        refine ex_bipush (x := 48) dX9_next_250 rfl rfl ?_
        refine ex_bipush (x := 57) dX9_next_252 rfl rfl ?_
        refine ex_callS (rest := []) dX9_next_254 rfl qp_8_81 rfl rfl rfl (Nat.le_of_ble_eq_true rfl) (k_inD _ (hk.2 a (by omega))) (Nat.le_of_ble_eq_true rfl) ?_
        show Ex qm_lay _ mX9_next 257 [some (.ref 55), some (.int (nI (t.2 p))), some (.int (nI (a - p)))] [.int (b2i (tIsD (t.2 a)))] σ1 _ _
        refine ex_if_eq (q := 309) (q2 := 260) dX9_next_257 rfl rfl (fun hh => absurd hh (b2i_n0.mpr (c))) (fun _ => ?_)
        refine ex_aload_n dX9_next_260 rfl rfl ?_
        refine ex_iload_n dX9_next_261 rfl rfl ?_
        refine ex_iconst (x := 4) dX9_next_262 rfl rfl ?_
        refine ex_icmp_ge (q := 289) (q2 := 266) dX9_next_263 rfl rfl (fun hh => absurd hh (nI_ge (a := (a - p)) (b := 4) (by omega) (by omega))) (fun _ => ?_)
        refine ex_bipush (x := 10) dX9_next_266 rfl rfl ?_
        refine ex_aload_n dX9_next_268 rfl rfl ?_
        refine ex_getI (s := 39) (x := nI (if a - p ≤ 4 then nv t p (a - p) else 0)) dX9_next_269 rfl qp_8_123 rfl rfl (h39) ?_
        refine ex_imul (z := nI (10 * (if a - p ≤ 4 then nv t p (a - p) else 0))) dX9_next_272 rfl (pk_mul 10 _) ?_
        refine ex_aload_n dX9_next_273 rfl rfl ?_
        refine ex_getR (b := 61) dX9_next_274 rfl qp_8_25 rfl rfl ?_
        refine ex_aload_n dX9_next_277 rfl rfl ?_
        refine ex_getI (s := 36) (x := nI a) dX9_next_278 rfl qp_8_114 rfl rfl (h36) ?_
        refine ex_iaload (k := a) (x := nI (t.2 a)) dX9_next_281 rfl rfl (rfl) (by omega) (by decide) (hP.2 _ (by omega)) ?_
        refine ex_iadd (z := nI ((10 * (if a - p ≤ 4 then nv t p (a - p) else 0)) + (t.2 a))) dX9_next_282 rfl (nI_add (10 * (if a - p ≤ 4 then nv t p (a - p) else 0)) (t.2 a)) ?_
        refine ex_bipush (x := 48) dX9_next_283 rfl rfl ?_
        refine ex_isub (z := nI (10 * (if a - p ≤ 4 then nv t p (a - p) else 0) + t.2 a - 48)) dX9_next_285 rfl (pk_sub (b := 48) (by omega)) ?_
        refine ex_goto (q := 290) dX9_next_286 rfl ?_
        refine ex_put (σ' := qm_wI σ1 39 (nI (10 * (if a - p ≤ 4 then nv t p (a - p) else 0) + t.2 a - 48))) dX9_next_290 rfl qp_8_123 rfl rfl (Or.inl rfl) rfl ?_
        refine ex_iinc (y := nI (a + 1 - p)) (ls' := [some (.ref 55), some (.int (nI (t.2 p))), some (.int (nI (a + 1 - p)))]) dX9_next_293 rfl rfl rfl ((by rw [show a + 1 - p = (a - p) + 1 by omega]; exact nI_add _ 1)) rfl ?_
        refine ex_aload_n dX9_next_296 rfl rfl ?_
        refine ex_dup dX9_next_297 rfl rfl ?_
        refine ex_getI (s := 36) (x := nI a) dX9_next_298 rfl qp_8_114 rfl rfl (h36) ?_
        refine ex_iconst (x := 1) dX9_next_301 rfl rfl ?_
        refine ex_iadd (z := nI (a + 1)) dX9_next_302 rfl (nI_add a 1) ?_
        refine ex_put (σ' := qm_wI (qm_wI σ1 39 (nI (10 * (if a - p ≤ 4 then nv t p (a - p) else 0) + t.2 a - 48))) 36 (nI (a + 1))) dX9_next_303 rfl qp_8_114 rfl rfl (Or.inl rfl) rfl ?_
        refine ex_goto (q := 230) dX9_next_306 rfl ?_
        exact hE
      · have env : 0 = if a + 1 - p ≤ 4 then nv t p (a + 1 - p) else 0 := by
          rw [if_neg (by omega)]
        have hg : sm σ1 (qm_wI (qm_wI σ1 39 0) 36 (nI (a + 1))) 36 40 0 0 := ((sm.rf σ1 36 40 0 0).wI (s := 39) _ (by omega)).wI (s := 36) _ (by omega)
        obtain ⟨σ', hE, hx, hs⟩ := ih (a + 1) (qm_wI (qm_wI σ1 39 0) 36 (nI (a + 1))) (by omega) (by omega) hP (by rw [rI_wI, if_pos rfl]) (by rw [rI_wI, if_neg (by decide), rI_wI, if_neg (by decide)]; exact h37) (by rw [rI_wI, if_neg (by decide), rI_wI, if_pos rfl, ← env]; rfl)
        refine ⟨σ', ?_, hx, hg.tr hs⟩
        refine ex_aload_n dX9_next_230 rfl rfl ?_
        refine ex_getI (s := 36) (x := nI a) dX9_next_231 rfl qp_8_114 rfl rfl (h36) ?_
        refine ex_aload_n dX9_next_234 rfl rfl ?_
        refine ex_getI (s := 29) (x := nI t.1) dX9_next_235 rfl qp_8_70 rfl rfl (hP.1) ?_
        refine ex_icmp_ge (q := 309) (q2 := 241) dX9_next_238 rfl rfl (fun hh => absurd hh (nI_ge (a := a) (b := t.1) (by omega) (by omega))) (fun _ => ?_)
        refine ex_aload_n dX9_next_241 rfl rfl ?_
        refine ex_getR (b := 61) dX9_next_242 rfl qp_8_25 rfl rfl ?_
        refine ex_aload_n dX9_next_245 rfl rfl ?_
        refine ex_getI (s := 36) (x := nI a) dX9_next_246 rfl qp_8_114 rfl rfl (h36) ?_
        refine ex_iaload (k := a) (x := nI (t.2 a)) dX9_next_249 rfl rfl (rfl) (by omega) (by decide) (hP.2 _ (by omega)) ?_
        refine ex_bipush (x := 48) dX9_next_250 rfl rfl ?_
        refine ex_bipush (x := 57) dX9_next_252 rfl rfl ?_
        refine ex_callS (rest := []) dX9_next_254 rfl qp_8_81 rfl rfl rfl (Nat.le_of_ble_eq_true rfl) (k_inD _ (hk.2 a (by omega))) (Nat.le_of_ble_eq_true rfl) ?_
        show Ex qm_lay _ mX9_next 257 [some (.ref 55), some (.int (nI (t.2 p))), some (.int (nI (a - p)))] [.int (b2i (tIsD (t.2 a)))] σ1 _ _
        refine ex_if_eq (q := 309) (q2 := 260) dX9_next_257 rfl rfl (fun hh => absurd hh (b2i_n0.mpr (c))) (fun _ => ?_)
        refine ex_aload_n dX9_next_260 rfl rfl ?_
        refine ex_iload_n dX9_next_261 rfl rfl ?_
        refine ex_iconst (x := 4) dX9_next_262 rfl rfl ?_
        refine ex_icmp_ge (q := 289) (q2 := 266) dX9_next_263 rfl rfl (fun _ => ?_) (fun hh => absurd (nI_le (a := 4) (b := (a - p)) (by omega) (by omega)) hh)
        refine ex_iconst (x := 0) dX9_next_289 rfl rfl ?_
        refine ex_put (σ' := qm_wI σ1 39 0) dX9_next_290 rfl qp_8_123 rfl rfl (Or.inl rfl) rfl ?_
        refine ex_iinc (y := nI (a + 1 - p)) (ls' := [some (.ref 55), some (.int (nI (t.2 p))), some (.int (nI (a + 1 - p)))]) dX9_next_293 rfl rfl rfl ((by rw [show a + 1 - p = (a - p) + 1 by omega]; exact nI_add _ 1)) rfl ?_
        refine ex_aload_n dX9_next_296 rfl rfl ?_
        refine ex_dup dX9_next_297 rfl rfl ?_
        refine ex_getI (s := 36) (x := nI a) dX9_next_298 rfl qp_8_114 rfl rfl (h36) ?_
        refine ex_iconst (x := 1) dX9_next_301 rfl rfl ?_
        refine ex_iadd (z := nI (a + 1)) dX9_next_302 rfl (nI_add a 1) ?_
        refine ex_put (σ' := qm_wI (qm_wI σ1 39 0) 36 (nI (a + 1))) dX9_next_303 rfl qp_8_114 rfl rfl (Or.inl rfl) rfl ?_
        refine ex_goto (q := 230) dX9_next_306 rfl ?_
        exact hE
    · rw [show rn tIsD t.2 (k + 1) a = a by rw [rn, if_neg c]]
      by_cases c4 : a - p ≤ 4
      · refine ⟨qm_wI σ1 38 1, ?_, ⟨?_, ?_, fun z => ?_, ?_⟩, (sm.rf σ1 36 40 0 0).wI (s := 38) 1 (by omega)⟩
        · refine ex_aload_n dX9_next_230 rfl rfl ?_
          refine ex_getI (s := 36) (x := nI a) dX9_next_231 rfl qp_8_114 rfl rfl (h36) ?_
          refine ex_aload_n dX9_next_234 rfl rfl ?_
          refine ex_getI (s := 29) (x := nI t.1) dX9_next_235 rfl qp_8_70 rfl rfl (hP.1) ?_
          refine ex_icmp_ge (q := 309) (q2 := 241) dX9_next_238 rfl rfl (fun hh => absurd hh (nI_ge (a := a) (b := t.1) (by omega) (by omega))) (fun _ => ?_)
          refine ex_aload_n dX9_next_241 rfl rfl ?_
          refine ex_getR (b := 61) dX9_next_242 rfl qp_8_25 rfl rfl ?_
          refine ex_aload_n dX9_next_245 rfl rfl ?_
          refine ex_getI (s := 36) (x := nI a) dX9_next_246 rfl qp_8_114 rfl rfl (h36) ?_
          refine ex_iaload (k := a) (x := nI (t.2 a)) dX9_next_249 rfl rfl (rfl) (by omega) (by decide) (hP.2 _ (by omega)) ?_
          refine ex_bipush (x := 48) dX9_next_250 rfl rfl ?_
          refine ex_bipush (x := 57) dX9_next_252 rfl rfl ?_
          refine ex_callS (rest := []) dX9_next_254 rfl qp_8_81 rfl rfl rfl (Nat.le_of_ble_eq_true rfl) (k_inD _ (hk.2 a (by omega))) (Nat.le_of_ble_eq_true rfl) ?_
          show Ex qm_lay _ mX9_next 257 [some (.ref 55), some (.int (nI (t.2 p))), some (.int (nI (a - p)))] [.int (b2i (tIsD (t.2 a)))] σ1 _ _
          refine ex_if_eq (q := 309) (q2 := 260) dX9_next_257 rfl rfl (fun _ => ?_) (fun hh => absurd (b2i_0.mpr (by simpa using c)) hh)
          refine ex_aload_n dX9_next_309 rfl rfl ?_
          refine ex_iload_n dX9_next_310 rfl rfl ?_
          refine ex_iconst (x := 4) dX9_next_311 rfl rfl ?_
          refine ex_icmp_le (q := 319) (q2 := 315) dX9_next_312 rfl rfl (fun _ => ?_) (fun hh => absurd (nI_le (a := (a - p)) (b := 4) (by omega) (by omega)) hh)
          refine ex_iconst (x := 1) dX9_next_319 rfl rfl ?_
          refine ex_put (σ' := qm_wI σ1 38 1) dX9_next_320 rfl qp_8_120 rfl rfl (Or.inl rfl) rfl ?_
          refine ex_goto (q := 403) dX9_next_323 rfl ?_
          exact ex_vret dX9_next_403 rfl rfl rfl
        · rw [rI_wI, if_neg (by decide)]; exact h37
        · rw [rI_wI, if_pos rfl]; rw [if_pos c4]; rfl
        · rw [rI_wI, if_neg (by decide), h39, if_pos c4]
        · rw [rI_wI, if_neg (by decide)]; exact h36
      · refine ⟨qm_wI σ1 38 (-1), ?_, ⟨?_, ?_, fun z => ?_, ?_⟩, (sm.rf σ1 36 40 0 0).wI (s := 38) (-1) (by omega)⟩
        · refine ex_aload_n dX9_next_230 rfl rfl ?_
          refine ex_getI (s := 36) (x := nI a) dX9_next_231 rfl qp_8_114 rfl rfl (h36) ?_
          refine ex_aload_n dX9_next_234 rfl rfl ?_
          refine ex_getI (s := 29) (x := nI t.1) dX9_next_235 rfl qp_8_70 rfl rfl (hP.1) ?_
          refine ex_icmp_ge (q := 309) (q2 := 241) dX9_next_238 rfl rfl (fun hh => absurd hh (nI_ge (a := a) (b := t.1) (by omega) (by omega))) (fun _ => ?_)
          refine ex_aload_n dX9_next_241 rfl rfl ?_
          refine ex_getR (b := 61) dX9_next_242 rfl qp_8_25 rfl rfl ?_
          refine ex_aload_n dX9_next_245 rfl rfl ?_
          refine ex_getI (s := 36) (x := nI a) dX9_next_246 rfl qp_8_114 rfl rfl (h36) ?_
          refine ex_iaload (k := a) (x := nI (t.2 a)) dX9_next_249 rfl rfl (rfl) (by omega) (by decide) (hP.2 _ (by omega)) ?_
          refine ex_bipush (x := 48) dX9_next_250 rfl rfl ?_
          refine ex_bipush (x := 57) dX9_next_252 rfl rfl ?_
          refine ex_callS (rest := []) dX9_next_254 rfl qp_8_81 rfl rfl rfl (Nat.le_of_ble_eq_true rfl) (k_inD _ (hk.2 a (by omega))) (Nat.le_of_ble_eq_true rfl) ?_
          show Ex qm_lay _ mX9_next 257 [some (.ref 55), some (.int (nI (t.2 p))), some (.int (nI (a - p)))] [.int (b2i (tIsD (t.2 a)))] σ1 _ _
          refine ex_if_eq (q := 309) (q2 := 260) dX9_next_257 rfl rfl (fun _ => ?_) (fun hh => absurd (b2i_0.mpr (by simpa using c)) hh)
          refine ex_aload_n dX9_next_309 rfl rfl ?_
          refine ex_iload_n dX9_next_310 rfl rfl ?_
          refine ex_iconst (x := 4) dX9_next_311 rfl rfl ?_
          refine ex_icmp_le (q := 319) (q2 := 315) dX9_next_312 rfl rfl (fun hh => absurd hh (nI_ge (a := 4) (b := (a - p)) (by omega) (by omega))) (fun _ => ?_)
          refine ex_iconst (x := (-1)) dX9_next_315 rfl rfl ?_
          refine ex_goto (q := 320) dX9_next_316 rfl ?_
          refine ex_put (σ' := qm_wI σ1 38 (-1)) dX9_next_320 rfl qp_8_120 rfl rfl (Or.inl rfl) rfl ?_
          refine ex_goto (q := 403) dX9_next_323 rfl ?_
          exact ex_vret dX9_next_403 rfl rfl rfl
        · rw [rI_wI, if_neg (by decide)]; exact h37
        · rw [rI_wI, if_pos rfl]; rw [if_neg c4]; rfl
        · exact absurd z c4
        · rw [rI_wI, if_neg (by decide)]; exact h36

set_option maxRecDepth 8000 in
set_option maxHeartbeats 2000000 in
theorem l_nx52 {t : gt_T} (hk : gt_ok t) {p : Nat} (hp : p ≤ t.1) {σ1 : qm_St} (hP : PM σ1 t) (hW : KW σ1) (h36 : qm_rI σ1 36 = nI p) : ∃ σ', Ex qm_lay 1 mX9_next 52 [some (.ref 55), none, none] [] σ1 none σ' ∧ LXM σ' (lx1 t p) ∧ sm σ1 σ' 36 40 0 0 := by
  have h160 := hk.1
  have hg : sm σ1 (qm_wI (qm_wI (qm_wI σ1 37 (nI p)) 38 0) 39 0) 36 40 0 0 := (((sm.rf σ1 36 40 0 0).wI (s := 37) _ (by omega)).wI (s := 38) _ (by omega)).wI (s := 39) _ (by omega)
  have i36 : qm_rI (qm_wI (qm_wI (qm_wI σ1 37 (nI p)) 38 0) 39 0) 36 = nI p := by rw [rI_wI, if_neg (by decide), rI_wI, if_neg (by decide), rI_wI, if_neg (by decide)]; exact h36
  have i37 : qm_rI (qm_wI (qm_wI (qm_wI σ1 37 (nI p)) 38 0) 39 0) 37 = nI p := by rw [rI_wI, if_neg (by decide), rI_wI, if_neg (by decide), rI_wI, if_pos rfl]
  have i38 : qm_rI (qm_wI (qm_wI (qm_wI σ1 37 (nI p)) 38 0) 39 0) 38 = 0 := by rw [rI_wI, if_neg (by decide), rI_wI, if_pos rfl]
  have i39 : qm_rI (qm_wI (qm_wI (qm_wI σ1 37 (nI p)) 38 0) 39 0) 39 = nI 0 := by rw [rI_wI, if_pos rfl]; rfl
  unfold lx1
  by_cases c1 : t.1 ≤ p
  · rw [if_pos c1]
    refine ⟨_, ?_, ⟨i37, i38, fun z => (by rcases z with z | z <;> cases z), fun z => absurd z.1 (show ¬ 4 ≤ 0 by decide), fun _ => i36⟩, hg⟩
    have ep : p = t.1 := by omega
    refine ex_aload_n dX9_next_52 rfl rfl ?_
    refine ex_aload_n dX9_next_53 rfl rfl ?_
    refine ex_getI (s := 36) (x := nI p) dX9_next_54 rfl qp_8_114 rfl rfl (h36) ?_
    refine ex_put (σ' := qm_wI σ1 37 (nI p)) dX9_next_57 rfl qp_8_117 rfl rfl (Or.inl rfl) rfl ?_
    refine ex_aload_n dX9_next_60 rfl rfl ?_
    refine ex_iconst (x := 0) dX9_next_61 rfl rfl ?_
    refine ex_put (σ' := qm_wI (qm_wI σ1 37 (nI p)) 38 0) dX9_next_62 rfl qp_8_120 rfl rfl (Or.inl rfl) rfl ?_
    refine ex_aload_n dX9_next_65 rfl rfl ?_
    refine ex_iconst (x := 0) dX9_next_66 rfl rfl ?_
    refine ex_put (σ' := qm_wI (qm_wI (qm_wI σ1 37 (nI p)) 38 0) 39 0) dX9_next_67 rfl qp_8_123 rfl rfl (Or.inl rfl) rfl ?_
    refine ex_aload_n dX9_next_70 rfl rfl ?_
    refine ex_getI (s := 36) (x := nI p) dX9_next_71 rfl qp_8_114 rfl rfl (h36) ?_
    refine ex_aload_n dX9_next_74 rfl rfl ?_
    refine ex_getI (s := 29) (x := nI t.1) dX9_next_75 rfl qp_8_70 rfl rfl (hP.1) ?_
    refine ex_icmp_ne (q := 82) (q2 := 81) dX9_next_78 rfl rfl (fun hh => absurd hh (fun zz => zz (congrArg nI (show p = t.1 by omega)))) (fun _ => ?_)
    exact ex_vret dX9_next_81 rfl rfl rfl
  · rw [if_neg c1]
    have hp1 : p < t.1 := by omega
    by_cases c2 : tIsL (t.2 p) = true
    · rw [if_pos c2]
      obtain ⟨σ', hE, ⟨x1, x2, x3, x4⟩, hs⟩ := l_nw103 hk (t.1 - p) p (qm_wI (qm_wI (qm_wI σ1 37 (nI p)) 38 0) 39 0) (by omega) (Nat.le_refl p) (fun i h1 h2 => absurd h2 (by omega)) hP hW i36 i37
      have e0 : rn tIsL t.2 (t.1 - p) p = lxe t tIsL p := rfl
      rw [e0] at x2 x3 x4
      refine ⟨σ', ?_, ⟨x1, x2, fun z => ?_, fun z => ?_, fun _ => x4⟩, hg.tr hs⟩
      · refine ex_aload_n dX9_next_52 rfl rfl ?_
        refine ex_aload_n dX9_next_53 rfl rfl ?_
        refine ex_getI (s := 36) (x := nI p) dX9_next_54 rfl qp_8_114 rfl rfl (h36) ?_
        refine ex_put (σ' := qm_wI σ1 37 (nI p)) dX9_next_57 rfl qp_8_117 rfl rfl (Or.inl rfl) rfl ?_
        refine ex_aload_n dX9_next_60 rfl rfl ?_
        refine ex_iconst (x := 0) dX9_next_61 rfl rfl ?_
        refine ex_put (σ' := qm_wI (qm_wI σ1 37 (nI p)) 38 0) dX9_next_62 rfl qp_8_120 rfl rfl (Or.inl rfl) rfl ?_
        refine ex_aload_n dX9_next_65 rfl rfl ?_
        refine ex_iconst (x := 0) dX9_next_66 rfl rfl ?_
        refine ex_put (σ' := qm_wI (qm_wI (qm_wI σ1 37 (nI p)) 38 0) 39 0) dX9_next_67 rfl qp_8_123 rfl rfl (Or.inl rfl) rfl ?_
        refine ex_aload_n dX9_next_70 rfl rfl ?_
        refine ex_getI (s := 36) (x := nI p) dX9_next_71 rfl qp_8_114 rfl rfl (h36) ?_
        refine ex_aload_n dX9_next_74 rfl rfl ?_
        refine ex_getI (s := 29) (x := nI t.1) dX9_next_75 rfl qp_8_70 rfl rfl (hP.1) ?_
        refine ex_icmp_ne (q := 82) (q2 := 81) dX9_next_78 rfl rfl (fun _ => ?_) (fun hh => absurd (fun zz => absurd ((nI_eq (a := p) (b := t.1) (by omega) (by omega)).mp zz) (by omega)) hh)
        refine ex_aload_n dX9_next_82 rfl rfl ?_
        refine ex_getR (b := 61) dX9_next_83 rfl qp_8_25 rfl rfl ?_
        refine ex_aload_n dX9_next_86 rfl rfl ?_
        refine ex_getI (s := 36) (x := nI p) dX9_next_87 rfl qp_8_114 rfl rfl (h36) ?_
        refine ex_iaload (k := p) (x := nI (t.2 p)) dX9_next_90 rfl rfl (rfl) (by omega) (by decide) (hP.2 _ (by omega)) ?_
        refine ex_istore_n (ls' := [some (.ref 55), some (.int (nI (t.2 p))), none]) dX9_next_91 rfl (Nat.le_of_ble_eq_true rfl) rfl rfl ?_
        refine ex_iload_n dX9_next_92 rfl rfl ?_
        refine ex_bipush (x := 97) dX9_next_93 rfl rfl ?_
        refine ex_bipush (x := 122) dX9_next_95 rfl rfl ?_
        refine ex_callS (rest := []) dX9_next_97 rfl qp_8_81 rfl rfl rfl (Nat.le_of_ble_eq_true rfl) (k_inL _ (hk.2 p (by omega))) (Nat.le_of_ble_eq_true rfl) ?_
        show Ex qm_lay _ mX9_next 100 [some (.ref 55), some (.int (nI (t.2 p))), none] [.int (b2i (tIsL (t.2 p)))] (qm_wI (qm_wI (qm_wI σ1 37 (nI p)) 38 0) 39 0) _ _
        refine ex_if_eq (q := 217) (q2 := 103) dX9_next_100 rfl rfl (fun hh => absurd hh (b2i_n0.mpr (c2))) (fun _ => ?_)
        exact hE
      · have z2 : (if wx t p (lxe t tIsL p) < 6 then 2 else if wx t p (lxe t tIsL p) < 12 then wx t p (lxe t tIsL p) - 2 else 3) = 1 ∨ (if wx t p (lxe t tIsL p) < 6 then 2 else if wx t p (lxe t tIsL p) < 12 then wx t p (lxe t tIsL p) - 2 else 3) = 2 := z
        have q : wx t p (lxe t tIsL p) < 6 := by
          rcases Nat.lt_or_ge (wx t p (lxe t tIsL p)) 6 with q | q
          · exact q
          · rw [if_neg (by omega)] at z2
            split at z2 <;> omega
        have ek : kwp (wx t p (lxe t tIsL p)) = wx t p (lxe t tIsL p) + 3 := by unfold kwp; rw [if_pos q]
        rw [x3, ek, if_neg (by omega)]
        rfl
      · have z2 : 4 ≤ (if wx t p (lxe t tIsL p) < 6 then 2 else if wx t p (lxe t tIsL p) < 12 then wx t p (lxe t tIsL p) - 2 else 3) ∧ (if wx t p (lxe t tIsL p) < 6 then 2 else if wx t p (lxe t tIsL p) < 12 then wx t p (lxe t tIsL p) - 2 else 3) < 7 := z
        have q : 6 ≤ wx t p (lxe t tIsL p) ∧ wx t p (lxe t tIsL p) < 9 := by
          rcases Nat.lt_or_ge (wx t p (lxe t tIsL p)) 6 with q | q
          · rw [if_pos q] at z2; omega
          · rw [if_neg (by omega)] at z2
            split at z2 <;> omega
        rw [x3]
        show _ = nI ((if wx t p (lxe t tIsL p) < 6 then 2 else if wx t p (lxe t tIsL p) < 12 then wx t p (lxe t tIsL p) - 2 else 3) - 4)
        have ek : kwp (wx t p (lxe t tIsL p)) = wx t p (lxe t tIsL p) - 6 := by unfold kwp; rw [if_neg (by omega), if_pos q.2]
        have ew : (if wx t p (lxe t tIsL p) < 6 then 2 else if wx t p (lxe t tIsL p) < 12 then wx t p (lxe t tIsL p) - 2 else 3) = wx t p (lxe t tIsL p) - 2 := by rw [if_neg (by omega), if_pos (by omega)]
        rw [ew, ek, if_pos (by omega)]
        exact congrArg nI (by omega)
    · rw [if_neg c2]
      by_cases c3 : tIsD (t.2 p) = true
      · rw [if_pos c3]
        obtain ⟨σ', hE, ⟨x1, x2, x3, x4⟩, hs⟩ := l_nd230 hk (t.1 - p) p (qm_wI (qm_wI (qm_wI σ1 37 (nI p)) 38 0) 39 0) (by omega) (Nat.le_refl p) hP i36 i37 (by rw [i39, Nat.sub_self]; rfl)
        have e0 : rn tIsD t.2 (t.1 - p) p = lxe t tIsD p := rfl
        rw [e0] at x2 x3 x4
        rw [Nat.sub_self] at hE
        refine ⟨σ', ?_, ⟨x1, x2, fun z => x3 ?_, fun z => ?_, fun _ => x4⟩, hg.tr hs⟩
        · refine ex_aload_n dX9_next_52 rfl rfl ?_
          refine ex_aload_n dX9_next_53 rfl rfl ?_
          refine ex_getI (s := 36) (x := nI p) dX9_next_54 rfl qp_8_114 rfl rfl (h36) ?_
          refine ex_put (σ' := qm_wI σ1 37 (nI p)) dX9_next_57 rfl qp_8_117 rfl rfl (Or.inl rfl) rfl ?_
          refine ex_aload_n dX9_next_60 rfl rfl ?_
          refine ex_iconst (x := 0) dX9_next_61 rfl rfl ?_
          refine ex_put (σ' := qm_wI (qm_wI σ1 37 (nI p)) 38 0) dX9_next_62 rfl qp_8_120 rfl rfl (Or.inl rfl) rfl ?_
          refine ex_aload_n dX9_next_65 rfl rfl ?_
          refine ex_iconst (x := 0) dX9_next_66 rfl rfl ?_
          refine ex_put (σ' := qm_wI (qm_wI (qm_wI σ1 37 (nI p)) 38 0) 39 0) dX9_next_67 rfl qp_8_123 rfl rfl (Or.inl rfl) rfl ?_
          refine ex_aload_n dX9_next_70 rfl rfl ?_
          refine ex_getI (s := 36) (x := nI p) dX9_next_71 rfl qp_8_114 rfl rfl (h36) ?_
          refine ex_aload_n dX9_next_74 rfl rfl ?_
          refine ex_getI (s := 29) (x := nI t.1) dX9_next_75 rfl qp_8_70 rfl rfl (hP.1) ?_
          refine ex_icmp_ne (q := 82) (q2 := 81) dX9_next_78 rfl rfl (fun _ => ?_) (fun hh => absurd (fun zz => absurd ((nI_eq (a := p) (b := t.1) (by omega) (by omega)).mp zz) (by omega)) hh)
          refine ex_aload_n dX9_next_82 rfl rfl ?_
          refine ex_getR (b := 61) dX9_next_83 rfl qp_8_25 rfl rfl ?_
          refine ex_aload_n dX9_next_86 rfl rfl ?_
          refine ex_getI (s := 36) (x := nI p) dX9_next_87 rfl qp_8_114 rfl rfl (h36) ?_
          refine ex_iaload (k := p) (x := nI (t.2 p)) dX9_next_90 rfl rfl (rfl) (by omega) (by decide) (hP.2 _ (by omega)) ?_
          refine ex_istore_n (ls' := [some (.ref 55), some (.int (nI (t.2 p))), none]) dX9_next_91 rfl (Nat.le_of_ble_eq_true rfl) rfl rfl ?_
          refine ex_iload_n dX9_next_92 rfl rfl ?_
          refine ex_bipush (x := 97) dX9_next_93 rfl rfl ?_
          refine ex_bipush (x := 122) dX9_next_95 rfl rfl ?_
          refine ex_callS (rest := []) dX9_next_97 rfl qp_8_81 rfl rfl rfl (Nat.le_of_ble_eq_true rfl) (k_inL _ (hk.2 p (by omega))) (Nat.le_of_ble_eq_true rfl) ?_
          show Ex qm_lay _ mX9_next 100 [some (.ref 55), some (.int (nI (t.2 p))), none] [.int (b2i (tIsL (t.2 p)))] (qm_wI (qm_wI (qm_wI σ1 37 (nI p)) 38 0) 39 0) _ _
          refine ex_if_eq (q := 217) (q2 := 103) dX9_next_100 rfl rfl (fun _ => ?_) (fun hh => absurd (b2i_0.mpr (by simpa using c2)) hh)
          refine ex_iload_n dX9_next_217 rfl rfl ?_
          refine ex_bipush (x := 48) dX9_next_218 rfl rfl ?_
          refine ex_bipush (x := 57) dX9_next_220 rfl rfl ?_
          refine ex_callS (rest := []) dX9_next_222 rfl qp_8_81 rfl rfl rfl (Nat.le_of_ble_eq_true rfl) (k_inD _ (hk.2 p (by omega))) (Nat.le_of_ble_eq_true rfl) ?_
          show Ex qm_lay _ mX9_next 225 [some (.ref 55), some (.int (nI (t.2 p))), none] [.int (b2i (tIsD (t.2 p)))] (qm_wI (qm_wI (qm_wI σ1 37 (nI p)) 38 0) 39 0) _ _
          refine ex_if_eq (q := 326) (q2 := 228) dX9_next_225 rfl rfl (fun hh => absurd hh (b2i_n0.mpr (c3))) (fun _ => ?_)
          refine ex_iconst (x := 0) dX9_next_228 rfl rfl ?_
          refine ex_istore_n (ls' := [some (.ref 55), some (.int (nI (t.2 p))), some (.int 0)]) dX9_next_229 rfl (Nat.le_of_ble_eq_true rfl) rfl rfl ?_
          exact hE
        · have z2 : (if lxe t tIsD p - p ≤ 4 then 1 else 3) = 1 ∨ (if lxe t tIsD p - p ≤ 4 then 1 else 3) = 2 := z
          split at z2
          · assumption
          · omega
        · have z2 : 4 ≤ (if lxe t tIsD p - p ≤ 4 then 1 else 3) ∧ (if lxe t tIsD p - p ≤ 4 then 1 else 3) < 7 := z
          split at z2 <;> omega
      · rw [if_neg c3]
        have h256 := hk.2 p hp1
        have i37' : ∀ x y, qm_rI (qm_wI (qm_wI (qm_wI (qm_wI (qm_wI σ1 37 (nI p)) 38 0) 39 0) 38 x) 36 y) 37 = nI p := fun x y => by rw [rI_wI, if_neg (by decide), rI_wI, if_neg (by decide)]; exact i37
        by_cases c4 : tIsS (t.2 p) = true
        · rw [if_pos c4]
          have hc : t.2 p = 40 ∨ t.2 p = 41 ∨ t.2 p = 59 ∨ t.2 p = 43 ∨ t.2 p = 45 ∨ t.2 p = 42 ∨ t.2 p = 60 ∨ t.2 p = 61 := by
            unfold tIsS at c4
            simp only [Bool.or_eq_true, decide_eq_true_eq] at c4
            exact c4
          have h40 : 40 ≤ t.2 p := by omega
          have ert : rtk (t.2 p) = nI (t.2 p) := by unfold rtk; rw [if_neg (by omega), if_neg (by omega), if_neg (by omega), if_neg (by omega)]
          refine ⟨qm_wI (qm_wI (qm_wI (qm_wI (qm_wI σ1 37 (nI p)) 38 0) 39 0) 38 (nI (t.2 p))) 36 (nI (p + 1)), ?_, ⟨i37' _ _, ?_, fun z => ?_, fun z => ?_, fun _ => ?_⟩, (hg.wI (s := 38) _ (by omega)).wI (s := 36) _ (by omega)⟩
          · rcases hc with e | e | e | e | e | e | e | e
            · refine ex_aload_n dX9_next_52 rfl rfl ?_
              refine ex_aload_n dX9_next_53 rfl rfl ?_
              refine ex_getI (s := 36) (x := nI p) dX9_next_54 rfl qp_8_114 rfl rfl (h36) ?_
              refine ex_put (σ' := qm_wI σ1 37 (nI p)) dX9_next_57 rfl qp_8_117 rfl rfl (Or.inl rfl) rfl ?_
              refine ex_aload_n dX9_next_60 rfl rfl ?_
              refine ex_iconst (x := 0) dX9_next_61 rfl rfl ?_
              refine ex_put (σ' := qm_wI (qm_wI σ1 37 (nI p)) 38 0) dX9_next_62 rfl qp_8_120 rfl rfl (Or.inl rfl) rfl ?_
              refine ex_aload_n dX9_next_65 rfl rfl ?_
              refine ex_iconst (x := 0) dX9_next_66 rfl rfl ?_
              refine ex_put (σ' := qm_wI (qm_wI (qm_wI σ1 37 (nI p)) 38 0) 39 0) dX9_next_67 rfl qp_8_123 rfl rfl (Or.inl rfl) rfl ?_
              refine ex_aload_n dX9_next_70 rfl rfl ?_
              refine ex_getI (s := 36) (x := nI p) dX9_next_71 rfl qp_8_114 rfl rfl (h36) ?_
              refine ex_aload_n dX9_next_74 rfl rfl ?_
              refine ex_getI (s := 29) (x := nI t.1) dX9_next_75 rfl qp_8_70 rfl rfl (hP.1) ?_
              refine ex_icmp_ne (q := 82) (q2 := 81) dX9_next_78 rfl rfl (fun _ => ?_) (fun hh => absurd (fun zz => absurd ((nI_eq (a := p) (b := t.1) (by omega) (by omega)).mp zz) (by omega)) hh)
              refine ex_aload_n dX9_next_82 rfl rfl ?_
              refine ex_getR (b := 61) dX9_next_83 rfl qp_8_25 rfl rfl ?_
              refine ex_aload_n dX9_next_86 rfl rfl ?_
              refine ex_getI (s := 36) (x := nI p) dX9_next_87 rfl qp_8_114 rfl rfl (h36) ?_
              refine ex_iaload (k := p) (x := nI (t.2 p)) dX9_next_90 rfl rfl (rfl) (by omega) (by decide) (hP.2 _ (by omega)) ?_
              refine ex_istore_n (ls' := [some (.ref 55), some (.int (nI (t.2 p))), none]) dX9_next_91 rfl (Nat.le_of_ble_eq_true rfl) rfl rfl ?_
              refine ex_iload_n dX9_next_92 rfl rfl ?_
              refine ex_bipush (x := 97) dX9_next_93 rfl rfl ?_
              refine ex_bipush (x := 122) dX9_next_95 rfl rfl ?_
              refine ex_callS (rest := []) dX9_next_97 rfl qp_8_81 rfl rfl rfl (Nat.le_of_ble_eq_true rfl) (k_inL _ (hk.2 p (by omega))) (Nat.le_of_ble_eq_true rfl) ?_
              show Ex qm_lay _ mX9_next 100 [some (.ref 55), some (.int (nI (t.2 p))), none] [.int (b2i (tIsL (t.2 p)))] (qm_wI (qm_wI (qm_wI σ1 37 (nI p)) 38 0) 39 0) _ _
              refine ex_if_eq (q := 217) (q2 := 103) dX9_next_100 rfl rfl (fun _ => ?_) (fun hh => absurd (b2i_0.mpr (by simpa using c2)) hh)
              refine ex_iload_n dX9_next_217 rfl rfl ?_
              refine ex_bipush (x := 48) dX9_next_218 rfl rfl ?_
              refine ex_bipush (x := 57) dX9_next_220 rfl rfl ?_
              refine ex_callS (rest := []) dX9_next_222 rfl qp_8_81 rfl rfl rfl (Nat.le_of_ble_eq_true rfl) (k_inD _ (hk.2 p (by omega))) (Nat.le_of_ble_eq_true rfl) ?_
              show Ex qm_lay _ mX9_next 225 [some (.ref 55), some (.int (nI (t.2 p))), none] [.int (b2i (tIsD (t.2 p)))] (qm_wI (qm_wI (qm_wI σ1 37 (nI p)) 38 0) 39 0) _ _
              refine ex_if_eq (q := 326) (q2 := 228) dX9_next_225 rfl rfl (fun _ => ?_) (fun hh => absurd (b2i_0.mpr (by simpa using c3)) hh)
              refine ex_iload_n dX9_next_326 rfl rfl ?_
              refine ex_bipush (x := 40) dX9_next_327 rfl rfl ?_
              refine ex_icmp_eq (q := 374) (q2 := 332) dX9_next_329 rfl rfl (fun _ => ?_) (fun hh => absurd (congrArg nI (show (t.2 p) = 40 by omega)) hh)
              refine ex_iconst (x := 1) dX9_next_374 rfl rfl ?_
              refine ex_goto (q := 379) dX9_next_375 rfl ?_
              refine ex_istore_n (ls' := [some (.ref 55), some (.int (nI (t.2 p))), some (.int 1)]) dX9_next_379 rfl (Nat.le_of_ble_eq_true rfl) rfl rfl ?_
              refine ex_aload_n dX9_next_380 rfl rfl ?_
              refine ex_iload_n dX9_next_381 rfl rfl ?_
              refine ex_if_eq (q := 389) (q2 := 385) dX9_next_382 rfl rfl (fun hh => absurd hh (by decide)) (fun _ => ?_)
              refine ex_iload_n dX9_next_385 rfl rfl ?_
              refine ex_goto (q := 390) dX9_next_386 rfl ?_
              refine ex_put (σ' := qm_wI (qm_wI (qm_wI (qm_wI σ1 37 (nI p)) 38 0) 39 0) 38 (nI (t.2 p))) dX9_next_390 rfl qp_8_120 rfl rfl (Or.inl rfl) rfl ?_
              refine ex_aload_n dX9_next_393 rfl rfl ?_
              refine ex_dup dX9_next_394 rfl rfl ?_
              refine ex_getI (s := 36) (x := nI p) dX9_next_395 rfl qp_8_114 rfl rfl (h36) ?_
              refine ex_iconst (x := 1) dX9_next_398 rfl rfl ?_
              refine ex_iadd (z := nI (p + 1)) dX9_next_399 rfl (nI_add p 1) ?_
              refine ex_put (σ' := qm_wI (qm_wI (qm_wI (qm_wI (qm_wI σ1 37 (nI p)) 38 0) 39 0) 38 (nI (t.2 p))) 36 (nI (p + 1))) dX9_next_400 rfl qp_8_114 rfl rfl (Or.inl rfl) rfl ?_
              exact ex_vret dX9_next_403 rfl rfl rfl
            · refine ex_aload_n dX9_next_52 rfl rfl ?_
              refine ex_aload_n dX9_next_53 rfl rfl ?_
              refine ex_getI (s := 36) (x := nI p) dX9_next_54 rfl qp_8_114 rfl rfl (h36) ?_
              refine ex_put (σ' := qm_wI σ1 37 (nI p)) dX9_next_57 rfl qp_8_117 rfl rfl (Or.inl rfl) rfl ?_
              refine ex_aload_n dX9_next_60 rfl rfl ?_
              refine ex_iconst (x := 0) dX9_next_61 rfl rfl ?_
              refine ex_put (σ' := qm_wI (qm_wI σ1 37 (nI p)) 38 0) dX9_next_62 rfl qp_8_120 rfl rfl (Or.inl rfl) rfl ?_
              refine ex_aload_n dX9_next_65 rfl rfl ?_
              refine ex_iconst (x := 0) dX9_next_66 rfl rfl ?_
              refine ex_put (σ' := qm_wI (qm_wI (qm_wI σ1 37 (nI p)) 38 0) 39 0) dX9_next_67 rfl qp_8_123 rfl rfl (Or.inl rfl) rfl ?_
              refine ex_aload_n dX9_next_70 rfl rfl ?_
              refine ex_getI (s := 36) (x := nI p) dX9_next_71 rfl qp_8_114 rfl rfl (h36) ?_
              refine ex_aload_n dX9_next_74 rfl rfl ?_
              refine ex_getI (s := 29) (x := nI t.1) dX9_next_75 rfl qp_8_70 rfl rfl (hP.1) ?_
              refine ex_icmp_ne (q := 82) (q2 := 81) dX9_next_78 rfl rfl (fun _ => ?_) (fun hh => absurd (fun zz => absurd ((nI_eq (a := p) (b := t.1) (by omega) (by omega)).mp zz) (by omega)) hh)
              refine ex_aload_n dX9_next_82 rfl rfl ?_
              refine ex_getR (b := 61) dX9_next_83 rfl qp_8_25 rfl rfl ?_
              refine ex_aload_n dX9_next_86 rfl rfl ?_
              refine ex_getI (s := 36) (x := nI p) dX9_next_87 rfl qp_8_114 rfl rfl (h36) ?_
              refine ex_iaload (k := p) (x := nI (t.2 p)) dX9_next_90 rfl rfl (rfl) (by omega) (by decide) (hP.2 _ (by omega)) ?_
              refine ex_istore_n (ls' := [some (.ref 55), some (.int (nI (t.2 p))), none]) dX9_next_91 rfl (Nat.le_of_ble_eq_true rfl) rfl rfl ?_
              refine ex_iload_n dX9_next_92 rfl rfl ?_
              refine ex_bipush (x := 97) dX9_next_93 rfl rfl ?_
              refine ex_bipush (x := 122) dX9_next_95 rfl rfl ?_
              refine ex_callS (rest := []) dX9_next_97 rfl qp_8_81 rfl rfl rfl (Nat.le_of_ble_eq_true rfl) (k_inL _ (hk.2 p (by omega))) (Nat.le_of_ble_eq_true rfl) ?_
              show Ex qm_lay _ mX9_next 100 [some (.ref 55), some (.int (nI (t.2 p))), none] [.int (b2i (tIsL (t.2 p)))] (qm_wI (qm_wI (qm_wI σ1 37 (nI p)) 38 0) 39 0) _ _
              refine ex_if_eq (q := 217) (q2 := 103) dX9_next_100 rfl rfl (fun _ => ?_) (fun hh => absurd (b2i_0.mpr (by simpa using c2)) hh)
              refine ex_iload_n dX9_next_217 rfl rfl ?_
              refine ex_bipush (x := 48) dX9_next_218 rfl rfl ?_
              refine ex_bipush (x := 57) dX9_next_220 rfl rfl ?_
              refine ex_callS (rest := []) dX9_next_222 rfl qp_8_81 rfl rfl rfl (Nat.le_of_ble_eq_true rfl) (k_inD _ (hk.2 p (by omega))) (Nat.le_of_ble_eq_true rfl) ?_
              show Ex qm_lay _ mX9_next 225 [some (.ref 55), some (.int (nI (t.2 p))), none] [.int (b2i (tIsD (t.2 p)))] (qm_wI (qm_wI (qm_wI σ1 37 (nI p)) 38 0) 39 0) _ _
              refine ex_if_eq (q := 326) (q2 := 228) dX9_next_225 rfl rfl (fun _ => ?_) (fun hh => absurd (b2i_0.mpr (by simpa using c3)) hh)
              refine ex_iload_n dX9_next_326 rfl rfl ?_
              refine ex_bipush (x := 40) dX9_next_327 rfl rfl ?_
              refine ex_icmp_eq (q := 374) (q2 := 332) dX9_next_329 rfl rfl (fun hh => absurd hh (fun zz => absurd ((nI_eq (a := (t.2 p)) (b := 40) (by omega) (by omega)).mp zz) (by omega))) (fun _ => ?_)
              refine ex_iload_n dX9_next_332 rfl rfl ?_
              refine ex_bipush (x := 41) dX9_next_333 rfl rfl ?_
              refine ex_icmp_eq (q := 374) (q2 := 338) dX9_next_335 rfl rfl (fun _ => ?_) (fun hh => absurd (congrArg nI (show (t.2 p) = 41 by omega)) hh)
              refine ex_iconst (x := 1) dX9_next_374 rfl rfl ?_
              refine ex_goto (q := 379) dX9_next_375 rfl ?_
              refine ex_istore_n (ls' := [some (.ref 55), some (.int (nI (t.2 p))), some (.int 1)]) dX9_next_379 rfl (Nat.le_of_ble_eq_true rfl) rfl rfl ?_
              refine ex_aload_n dX9_next_380 rfl rfl ?_
              refine ex_iload_n dX9_next_381 rfl rfl ?_
              refine ex_if_eq (q := 389) (q2 := 385) dX9_next_382 rfl rfl (fun hh => absurd hh (by decide)) (fun _ => ?_)
              refine ex_iload_n dX9_next_385 rfl rfl ?_
              refine ex_goto (q := 390) dX9_next_386 rfl ?_
              refine ex_put (σ' := qm_wI (qm_wI (qm_wI (qm_wI σ1 37 (nI p)) 38 0) 39 0) 38 (nI (t.2 p))) dX9_next_390 rfl qp_8_120 rfl rfl (Or.inl rfl) rfl ?_
              refine ex_aload_n dX9_next_393 rfl rfl ?_
              refine ex_dup dX9_next_394 rfl rfl ?_
              refine ex_getI (s := 36) (x := nI p) dX9_next_395 rfl qp_8_114 rfl rfl (h36) ?_
              refine ex_iconst (x := 1) dX9_next_398 rfl rfl ?_
              refine ex_iadd (z := nI (p + 1)) dX9_next_399 rfl (nI_add p 1) ?_
              refine ex_put (σ' := qm_wI (qm_wI (qm_wI (qm_wI (qm_wI σ1 37 (nI p)) 38 0) 39 0) 38 (nI (t.2 p))) 36 (nI (p + 1))) dX9_next_400 rfl qp_8_114 rfl rfl (Or.inl rfl) rfl ?_
              exact ex_vret dX9_next_403 rfl rfl rfl
            · refine ex_aload_n dX9_next_52 rfl rfl ?_
              refine ex_aload_n dX9_next_53 rfl rfl ?_
              refine ex_getI (s := 36) (x := nI p) dX9_next_54 rfl qp_8_114 rfl rfl (h36) ?_
              refine ex_put (σ' := qm_wI σ1 37 (nI p)) dX9_next_57 rfl qp_8_117 rfl rfl (Or.inl rfl) rfl ?_
              refine ex_aload_n dX9_next_60 rfl rfl ?_
              refine ex_iconst (x := 0) dX9_next_61 rfl rfl ?_
              refine ex_put (σ' := qm_wI (qm_wI σ1 37 (nI p)) 38 0) dX9_next_62 rfl qp_8_120 rfl rfl (Or.inl rfl) rfl ?_
              refine ex_aload_n dX9_next_65 rfl rfl ?_
              refine ex_iconst (x := 0) dX9_next_66 rfl rfl ?_
              refine ex_put (σ' := qm_wI (qm_wI (qm_wI σ1 37 (nI p)) 38 0) 39 0) dX9_next_67 rfl qp_8_123 rfl rfl (Or.inl rfl) rfl ?_
              refine ex_aload_n dX9_next_70 rfl rfl ?_
              refine ex_getI (s := 36) (x := nI p) dX9_next_71 rfl qp_8_114 rfl rfl (h36) ?_
              refine ex_aload_n dX9_next_74 rfl rfl ?_
              refine ex_getI (s := 29) (x := nI t.1) dX9_next_75 rfl qp_8_70 rfl rfl (hP.1) ?_
              refine ex_icmp_ne (q := 82) (q2 := 81) dX9_next_78 rfl rfl (fun _ => ?_) (fun hh => absurd (fun zz => absurd ((nI_eq (a := p) (b := t.1) (by omega) (by omega)).mp zz) (by omega)) hh)
              refine ex_aload_n dX9_next_82 rfl rfl ?_
              refine ex_getR (b := 61) dX9_next_83 rfl qp_8_25 rfl rfl ?_
              refine ex_aload_n dX9_next_86 rfl rfl ?_
              refine ex_getI (s := 36) (x := nI p) dX9_next_87 rfl qp_8_114 rfl rfl (h36) ?_
              refine ex_iaload (k := p) (x := nI (t.2 p)) dX9_next_90 rfl rfl (rfl) (by omega) (by decide) (hP.2 _ (by omega)) ?_
              refine ex_istore_n (ls' := [some (.ref 55), some (.int (nI (t.2 p))), none]) dX9_next_91 rfl (Nat.le_of_ble_eq_true rfl) rfl rfl ?_
              refine ex_iload_n dX9_next_92 rfl rfl ?_
              refine ex_bipush (x := 97) dX9_next_93 rfl rfl ?_
              refine ex_bipush (x := 122) dX9_next_95 rfl rfl ?_
              refine ex_callS (rest := []) dX9_next_97 rfl qp_8_81 rfl rfl rfl (Nat.le_of_ble_eq_true rfl) (k_inL _ (hk.2 p (by omega))) (Nat.le_of_ble_eq_true rfl) ?_
              show Ex qm_lay _ mX9_next 100 [some (.ref 55), some (.int (nI (t.2 p))), none] [.int (b2i (tIsL (t.2 p)))] (qm_wI (qm_wI (qm_wI σ1 37 (nI p)) 38 0) 39 0) _ _
              refine ex_if_eq (q := 217) (q2 := 103) dX9_next_100 rfl rfl (fun _ => ?_) (fun hh => absurd (b2i_0.mpr (by simpa using c2)) hh)
              refine ex_iload_n dX9_next_217 rfl rfl ?_
              refine ex_bipush (x := 48) dX9_next_218 rfl rfl ?_
              refine ex_bipush (x := 57) dX9_next_220 rfl rfl ?_
              refine ex_callS (rest := []) dX9_next_222 rfl qp_8_81 rfl rfl rfl (Nat.le_of_ble_eq_true rfl) (k_inD _ (hk.2 p (by omega))) (Nat.le_of_ble_eq_true rfl) ?_
              show Ex qm_lay _ mX9_next 225 [some (.ref 55), some (.int (nI (t.2 p))), none] [.int (b2i (tIsD (t.2 p)))] (qm_wI (qm_wI (qm_wI σ1 37 (nI p)) 38 0) 39 0) _ _
              refine ex_if_eq (q := 326) (q2 := 228) dX9_next_225 rfl rfl (fun _ => ?_) (fun hh => absurd (b2i_0.mpr (by simpa using c3)) hh)
              refine ex_iload_n dX9_next_326 rfl rfl ?_
              refine ex_bipush (x := 40) dX9_next_327 rfl rfl ?_
              refine ex_icmp_eq (q := 374) (q2 := 332) dX9_next_329 rfl rfl (fun hh => absurd hh (fun zz => absurd ((nI_eq (a := (t.2 p)) (b := 40) (by omega) (by omega)).mp zz) (by omega))) (fun _ => ?_)
              refine ex_iload_n dX9_next_332 rfl rfl ?_
              refine ex_bipush (x := 41) dX9_next_333 rfl rfl ?_
              refine ex_icmp_eq (q := 374) (q2 := 338) dX9_next_335 rfl rfl (fun hh => absurd hh (fun zz => absurd ((nI_eq (a := (t.2 p)) (b := 41) (by omega) (by omega)).mp zz) (by omega))) (fun _ => ?_)
              refine ex_iload_n dX9_next_338 rfl rfl ?_
              refine ex_bipush (x := 59) dX9_next_339 rfl rfl ?_
              refine ex_icmp_eq (q := 374) (q2 := 344) dX9_next_341 rfl rfl (fun _ => ?_) (fun hh => absurd (congrArg nI (show (t.2 p) = 59 by omega)) hh)
              refine ex_iconst (x := 1) dX9_next_374 rfl rfl ?_
              refine ex_goto (q := 379) dX9_next_375 rfl ?_
              refine ex_istore_n (ls' := [some (.ref 55), some (.int (nI (t.2 p))), some (.int 1)]) dX9_next_379 rfl (Nat.le_of_ble_eq_true rfl) rfl rfl ?_
              refine ex_aload_n dX9_next_380 rfl rfl ?_
              refine ex_iload_n dX9_next_381 rfl rfl ?_
              refine ex_if_eq (q := 389) (q2 := 385) dX9_next_382 rfl rfl (fun hh => absurd hh (by decide)) (fun _ => ?_)
              refine ex_iload_n dX9_next_385 rfl rfl ?_
              refine ex_goto (q := 390) dX9_next_386 rfl ?_
              refine ex_put (σ' := qm_wI (qm_wI (qm_wI (qm_wI σ1 37 (nI p)) 38 0) 39 0) 38 (nI (t.2 p))) dX9_next_390 rfl qp_8_120 rfl rfl (Or.inl rfl) rfl ?_
              refine ex_aload_n dX9_next_393 rfl rfl ?_
              refine ex_dup dX9_next_394 rfl rfl ?_
              refine ex_getI (s := 36) (x := nI p) dX9_next_395 rfl qp_8_114 rfl rfl (h36) ?_
              refine ex_iconst (x := 1) dX9_next_398 rfl rfl ?_
              refine ex_iadd (z := nI (p + 1)) dX9_next_399 rfl (nI_add p 1) ?_
              refine ex_put (σ' := qm_wI (qm_wI (qm_wI (qm_wI (qm_wI σ1 37 (nI p)) 38 0) 39 0) 38 (nI (t.2 p))) 36 (nI (p + 1))) dX9_next_400 rfl qp_8_114 rfl rfl (Or.inl rfl) rfl ?_
              exact ex_vret dX9_next_403 rfl rfl rfl
            · refine ex_aload_n dX9_next_52 rfl rfl ?_
              refine ex_aload_n dX9_next_53 rfl rfl ?_
              refine ex_getI (s := 36) (x := nI p) dX9_next_54 rfl qp_8_114 rfl rfl (h36) ?_
              refine ex_put (σ' := qm_wI σ1 37 (nI p)) dX9_next_57 rfl qp_8_117 rfl rfl (Or.inl rfl) rfl ?_
              refine ex_aload_n dX9_next_60 rfl rfl ?_
              refine ex_iconst (x := 0) dX9_next_61 rfl rfl ?_
              refine ex_put (σ' := qm_wI (qm_wI σ1 37 (nI p)) 38 0) dX9_next_62 rfl qp_8_120 rfl rfl (Or.inl rfl) rfl ?_
              refine ex_aload_n dX9_next_65 rfl rfl ?_
              refine ex_iconst (x := 0) dX9_next_66 rfl rfl ?_
              refine ex_put (σ' := qm_wI (qm_wI (qm_wI σ1 37 (nI p)) 38 0) 39 0) dX9_next_67 rfl qp_8_123 rfl rfl (Or.inl rfl) rfl ?_
              refine ex_aload_n dX9_next_70 rfl rfl ?_
              refine ex_getI (s := 36) (x := nI p) dX9_next_71 rfl qp_8_114 rfl rfl (h36) ?_
              refine ex_aload_n dX9_next_74 rfl rfl ?_
              refine ex_getI (s := 29) (x := nI t.1) dX9_next_75 rfl qp_8_70 rfl rfl (hP.1) ?_
              refine ex_icmp_ne (q := 82) (q2 := 81) dX9_next_78 rfl rfl (fun _ => ?_) (fun hh => absurd (fun zz => absurd ((nI_eq (a := p) (b := t.1) (by omega) (by omega)).mp zz) (by omega)) hh)
              refine ex_aload_n dX9_next_82 rfl rfl ?_
              refine ex_getR (b := 61) dX9_next_83 rfl qp_8_25 rfl rfl ?_
              refine ex_aload_n dX9_next_86 rfl rfl ?_
              refine ex_getI (s := 36) (x := nI p) dX9_next_87 rfl qp_8_114 rfl rfl (h36) ?_
              refine ex_iaload (k := p) (x := nI (t.2 p)) dX9_next_90 rfl rfl (rfl) (by omega) (by decide) (hP.2 _ (by omega)) ?_
              refine ex_istore_n (ls' := [some (.ref 55), some (.int (nI (t.2 p))), none]) dX9_next_91 rfl (Nat.le_of_ble_eq_true rfl) rfl rfl ?_
              refine ex_iload_n dX9_next_92 rfl rfl ?_
              refine ex_bipush (x := 97) dX9_next_93 rfl rfl ?_
              refine ex_bipush (x := 122) dX9_next_95 rfl rfl ?_
              refine ex_callS (rest := []) dX9_next_97 rfl qp_8_81 rfl rfl rfl (Nat.le_of_ble_eq_true rfl) (k_inL _ (hk.2 p (by omega))) (Nat.le_of_ble_eq_true rfl) ?_
              show Ex qm_lay _ mX9_next 100 [some (.ref 55), some (.int (nI (t.2 p))), none] [.int (b2i (tIsL (t.2 p)))] (qm_wI (qm_wI (qm_wI σ1 37 (nI p)) 38 0) 39 0) _ _
              refine ex_if_eq (q := 217) (q2 := 103) dX9_next_100 rfl rfl (fun _ => ?_) (fun hh => absurd (b2i_0.mpr (by simpa using c2)) hh)
              refine ex_iload_n dX9_next_217 rfl rfl ?_
              refine ex_bipush (x := 48) dX9_next_218 rfl rfl ?_
              refine ex_bipush (x := 57) dX9_next_220 rfl rfl ?_
              refine ex_callS (rest := []) dX9_next_222 rfl qp_8_81 rfl rfl rfl (Nat.le_of_ble_eq_true rfl) (k_inD _ (hk.2 p (by omega))) (Nat.le_of_ble_eq_true rfl) ?_
              show Ex qm_lay _ mX9_next 225 [some (.ref 55), some (.int (nI (t.2 p))), none] [.int (b2i (tIsD (t.2 p)))] (qm_wI (qm_wI (qm_wI σ1 37 (nI p)) 38 0) 39 0) _ _
              refine ex_if_eq (q := 326) (q2 := 228) dX9_next_225 rfl rfl (fun _ => ?_) (fun hh => absurd (b2i_0.mpr (by simpa using c3)) hh)
              refine ex_iload_n dX9_next_326 rfl rfl ?_
              refine ex_bipush (x := 40) dX9_next_327 rfl rfl ?_
              refine ex_icmp_eq (q := 374) (q2 := 332) dX9_next_329 rfl rfl (fun hh => absurd hh (fun zz => absurd ((nI_eq (a := (t.2 p)) (b := 40) (by omega) (by omega)).mp zz) (by omega))) (fun _ => ?_)
              refine ex_iload_n dX9_next_332 rfl rfl ?_
              refine ex_bipush (x := 41) dX9_next_333 rfl rfl ?_
              refine ex_icmp_eq (q := 374) (q2 := 338) dX9_next_335 rfl rfl (fun hh => absurd hh (fun zz => absurd ((nI_eq (a := (t.2 p)) (b := 41) (by omega) (by omega)).mp zz) (by omega))) (fun _ => ?_)
              refine ex_iload_n dX9_next_338 rfl rfl ?_
              refine ex_bipush (x := 59) dX9_next_339 rfl rfl ?_
              refine ex_icmp_eq (q := 374) (q2 := 344) dX9_next_341 rfl rfl (fun hh => absurd hh (fun zz => absurd ((nI_eq (a := (t.2 p)) (b := 59) (by omega) (by omega)).mp zz) (by omega))) (fun _ => ?_)
              refine ex_iload_n dX9_next_344 rfl rfl ?_
              refine ex_bipush (x := 43) dX9_next_345 rfl rfl ?_
              refine ex_icmp_eq (q := 374) (q2 := 350) dX9_next_347 rfl rfl (fun _ => ?_) (fun hh => absurd (congrArg nI (show (t.2 p) = 43 by omega)) hh)
              refine ex_iconst (x := 1) dX9_next_374 rfl rfl ?_
              refine ex_goto (q := 379) dX9_next_375 rfl ?_
              refine ex_istore_n (ls' := [some (.ref 55), some (.int (nI (t.2 p))), some (.int 1)]) dX9_next_379 rfl (Nat.le_of_ble_eq_true rfl) rfl rfl ?_
              refine ex_aload_n dX9_next_380 rfl rfl ?_
              refine ex_iload_n dX9_next_381 rfl rfl ?_
              refine ex_if_eq (q := 389) (q2 := 385) dX9_next_382 rfl rfl (fun hh => absurd hh (by decide)) (fun _ => ?_)
              refine ex_iload_n dX9_next_385 rfl rfl ?_
              refine ex_goto (q := 390) dX9_next_386 rfl ?_
              refine ex_put (σ' := qm_wI (qm_wI (qm_wI (qm_wI σ1 37 (nI p)) 38 0) 39 0) 38 (nI (t.2 p))) dX9_next_390 rfl qp_8_120 rfl rfl (Or.inl rfl) rfl ?_
              refine ex_aload_n dX9_next_393 rfl rfl ?_
              refine ex_dup dX9_next_394 rfl rfl ?_
              refine ex_getI (s := 36) (x := nI p) dX9_next_395 rfl qp_8_114 rfl rfl (h36) ?_
              refine ex_iconst (x := 1) dX9_next_398 rfl rfl ?_
              refine ex_iadd (z := nI (p + 1)) dX9_next_399 rfl (nI_add p 1) ?_
              refine ex_put (σ' := qm_wI (qm_wI (qm_wI (qm_wI (qm_wI σ1 37 (nI p)) 38 0) 39 0) 38 (nI (t.2 p))) 36 (nI (p + 1))) dX9_next_400 rfl qp_8_114 rfl rfl (Or.inl rfl) rfl ?_
              exact ex_vret dX9_next_403 rfl rfl rfl
            · refine ex_aload_n dX9_next_52 rfl rfl ?_
              refine ex_aload_n dX9_next_53 rfl rfl ?_
              refine ex_getI (s := 36) (x := nI p) dX9_next_54 rfl qp_8_114 rfl rfl (h36) ?_
              refine ex_put (σ' := qm_wI σ1 37 (nI p)) dX9_next_57 rfl qp_8_117 rfl rfl (Or.inl rfl) rfl ?_
              refine ex_aload_n dX9_next_60 rfl rfl ?_
              refine ex_iconst (x := 0) dX9_next_61 rfl rfl ?_
              refine ex_put (σ' := qm_wI (qm_wI σ1 37 (nI p)) 38 0) dX9_next_62 rfl qp_8_120 rfl rfl (Or.inl rfl) rfl ?_
              refine ex_aload_n dX9_next_65 rfl rfl ?_
              refine ex_iconst (x := 0) dX9_next_66 rfl rfl ?_
              refine ex_put (σ' := qm_wI (qm_wI (qm_wI σ1 37 (nI p)) 38 0) 39 0) dX9_next_67 rfl qp_8_123 rfl rfl (Or.inl rfl) rfl ?_
              refine ex_aload_n dX9_next_70 rfl rfl ?_
              refine ex_getI (s := 36) (x := nI p) dX9_next_71 rfl qp_8_114 rfl rfl (h36) ?_
              refine ex_aload_n dX9_next_74 rfl rfl ?_
              refine ex_getI (s := 29) (x := nI t.1) dX9_next_75 rfl qp_8_70 rfl rfl (hP.1) ?_
              refine ex_icmp_ne (q := 82) (q2 := 81) dX9_next_78 rfl rfl (fun _ => ?_) (fun hh => absurd (fun zz => absurd ((nI_eq (a := p) (b := t.1) (by omega) (by omega)).mp zz) (by omega)) hh)
              refine ex_aload_n dX9_next_82 rfl rfl ?_
              refine ex_getR (b := 61) dX9_next_83 rfl qp_8_25 rfl rfl ?_
              refine ex_aload_n dX9_next_86 rfl rfl ?_
              refine ex_getI (s := 36) (x := nI p) dX9_next_87 rfl qp_8_114 rfl rfl (h36) ?_
              refine ex_iaload (k := p) (x := nI (t.2 p)) dX9_next_90 rfl rfl (rfl) (by omega) (by decide) (hP.2 _ (by omega)) ?_
              refine ex_istore_n (ls' := [some (.ref 55), some (.int (nI (t.2 p))), none]) dX9_next_91 rfl (Nat.le_of_ble_eq_true rfl) rfl rfl ?_
              refine ex_iload_n dX9_next_92 rfl rfl ?_
              refine ex_bipush (x := 97) dX9_next_93 rfl rfl ?_
              refine ex_bipush (x := 122) dX9_next_95 rfl rfl ?_
              refine ex_callS (rest := []) dX9_next_97 rfl qp_8_81 rfl rfl rfl (Nat.le_of_ble_eq_true rfl) (k_inL _ (hk.2 p (by omega))) (Nat.le_of_ble_eq_true rfl) ?_
              show Ex qm_lay _ mX9_next 100 [some (.ref 55), some (.int (nI (t.2 p))), none] [.int (b2i (tIsL (t.2 p)))] (qm_wI (qm_wI (qm_wI σ1 37 (nI p)) 38 0) 39 0) _ _
              refine ex_if_eq (q := 217) (q2 := 103) dX9_next_100 rfl rfl (fun _ => ?_) (fun hh => absurd (b2i_0.mpr (by simpa using c2)) hh)
              refine ex_iload_n dX9_next_217 rfl rfl ?_
              refine ex_bipush (x := 48) dX9_next_218 rfl rfl ?_
              refine ex_bipush (x := 57) dX9_next_220 rfl rfl ?_
              refine ex_callS (rest := []) dX9_next_222 rfl qp_8_81 rfl rfl rfl (Nat.le_of_ble_eq_true rfl) (k_inD _ (hk.2 p (by omega))) (Nat.le_of_ble_eq_true rfl) ?_
              show Ex qm_lay _ mX9_next 225 [some (.ref 55), some (.int (nI (t.2 p))), none] [.int (b2i (tIsD (t.2 p)))] (qm_wI (qm_wI (qm_wI σ1 37 (nI p)) 38 0) 39 0) _ _
              refine ex_if_eq (q := 326) (q2 := 228) dX9_next_225 rfl rfl (fun _ => ?_) (fun hh => absurd (b2i_0.mpr (by simpa using c3)) hh)
              refine ex_iload_n dX9_next_326 rfl rfl ?_
              refine ex_bipush (x := 40) dX9_next_327 rfl rfl ?_
              refine ex_icmp_eq (q := 374) (q2 := 332) dX9_next_329 rfl rfl (fun hh => absurd hh (fun zz => absurd ((nI_eq (a := (t.2 p)) (b := 40) (by omega) (by omega)).mp zz) (by omega))) (fun _ => ?_)
              refine ex_iload_n dX9_next_332 rfl rfl ?_
              refine ex_bipush (x := 41) dX9_next_333 rfl rfl ?_
              refine ex_icmp_eq (q := 374) (q2 := 338) dX9_next_335 rfl rfl (fun hh => absurd hh (fun zz => absurd ((nI_eq (a := (t.2 p)) (b := 41) (by omega) (by omega)).mp zz) (by omega))) (fun _ => ?_)
              refine ex_iload_n dX9_next_338 rfl rfl ?_
              refine ex_bipush (x := 59) dX9_next_339 rfl rfl ?_
              refine ex_icmp_eq (q := 374) (q2 := 344) dX9_next_341 rfl rfl (fun hh => absurd hh (fun zz => absurd ((nI_eq (a := (t.2 p)) (b := 59) (by omega) (by omega)).mp zz) (by omega))) (fun _ => ?_)
              refine ex_iload_n dX9_next_344 rfl rfl ?_
              refine ex_bipush (x := 43) dX9_next_345 rfl rfl ?_
              refine ex_icmp_eq (q := 374) (q2 := 350) dX9_next_347 rfl rfl (fun hh => absurd hh (fun zz => absurd ((nI_eq (a := (t.2 p)) (b := 43) (by omega) (by omega)).mp zz) (by omega))) (fun _ => ?_)
              refine ex_iload_n dX9_next_350 rfl rfl ?_
              refine ex_bipush (x := 45) dX9_next_351 rfl rfl ?_
              refine ex_icmp_eq (q := 374) (q2 := 356) dX9_next_353 rfl rfl (fun _ => ?_) (fun hh => absurd (congrArg nI (show (t.2 p) = 45 by omega)) hh)
              refine ex_iconst (x := 1) dX9_next_374 rfl rfl ?_
              refine ex_goto (q := 379) dX9_next_375 rfl ?_
              refine ex_istore_n (ls' := [some (.ref 55), some (.int (nI (t.2 p))), some (.int 1)]) dX9_next_379 rfl (Nat.le_of_ble_eq_true rfl) rfl rfl ?_
              refine ex_aload_n dX9_next_380 rfl rfl ?_
              refine ex_iload_n dX9_next_381 rfl rfl ?_
              refine ex_if_eq (q := 389) (q2 := 385) dX9_next_382 rfl rfl (fun hh => absurd hh (by decide)) (fun _ => ?_)
              refine ex_iload_n dX9_next_385 rfl rfl ?_
              refine ex_goto (q := 390) dX9_next_386 rfl ?_
              refine ex_put (σ' := qm_wI (qm_wI (qm_wI (qm_wI σ1 37 (nI p)) 38 0) 39 0) 38 (nI (t.2 p))) dX9_next_390 rfl qp_8_120 rfl rfl (Or.inl rfl) rfl ?_
              refine ex_aload_n dX9_next_393 rfl rfl ?_
              refine ex_dup dX9_next_394 rfl rfl ?_
              refine ex_getI (s := 36) (x := nI p) dX9_next_395 rfl qp_8_114 rfl rfl (h36) ?_
              refine ex_iconst (x := 1) dX9_next_398 rfl rfl ?_
              refine ex_iadd (z := nI (p + 1)) dX9_next_399 rfl (nI_add p 1) ?_
              refine ex_put (σ' := qm_wI (qm_wI (qm_wI (qm_wI (qm_wI σ1 37 (nI p)) 38 0) 39 0) 38 (nI (t.2 p))) 36 (nI (p + 1))) dX9_next_400 rfl qp_8_114 rfl rfl (Or.inl rfl) rfl ?_
              exact ex_vret dX9_next_403 rfl rfl rfl
            · refine ex_aload_n dX9_next_52 rfl rfl ?_
              refine ex_aload_n dX9_next_53 rfl rfl ?_
              refine ex_getI (s := 36) (x := nI p) dX9_next_54 rfl qp_8_114 rfl rfl (h36) ?_
              refine ex_put (σ' := qm_wI σ1 37 (nI p)) dX9_next_57 rfl qp_8_117 rfl rfl (Or.inl rfl) rfl ?_
              refine ex_aload_n dX9_next_60 rfl rfl ?_
              refine ex_iconst (x := 0) dX9_next_61 rfl rfl ?_
              refine ex_put (σ' := qm_wI (qm_wI σ1 37 (nI p)) 38 0) dX9_next_62 rfl qp_8_120 rfl rfl (Or.inl rfl) rfl ?_
              refine ex_aload_n dX9_next_65 rfl rfl ?_
              refine ex_iconst (x := 0) dX9_next_66 rfl rfl ?_
              refine ex_put (σ' := qm_wI (qm_wI (qm_wI σ1 37 (nI p)) 38 0) 39 0) dX9_next_67 rfl qp_8_123 rfl rfl (Or.inl rfl) rfl ?_
              refine ex_aload_n dX9_next_70 rfl rfl ?_
              refine ex_getI (s := 36) (x := nI p) dX9_next_71 rfl qp_8_114 rfl rfl (h36) ?_
              refine ex_aload_n dX9_next_74 rfl rfl ?_
              refine ex_getI (s := 29) (x := nI t.1) dX9_next_75 rfl qp_8_70 rfl rfl (hP.1) ?_
              refine ex_icmp_ne (q := 82) (q2 := 81) dX9_next_78 rfl rfl (fun _ => ?_) (fun hh => absurd (fun zz => absurd ((nI_eq (a := p) (b := t.1) (by omega) (by omega)).mp zz) (by omega)) hh)
              refine ex_aload_n dX9_next_82 rfl rfl ?_
              refine ex_getR (b := 61) dX9_next_83 rfl qp_8_25 rfl rfl ?_
              refine ex_aload_n dX9_next_86 rfl rfl ?_
              refine ex_getI (s := 36) (x := nI p) dX9_next_87 rfl qp_8_114 rfl rfl (h36) ?_
              refine ex_iaload (k := p) (x := nI (t.2 p)) dX9_next_90 rfl rfl (rfl) (by omega) (by decide) (hP.2 _ (by omega)) ?_
              refine ex_istore_n (ls' := [some (.ref 55), some (.int (nI (t.2 p))), none]) dX9_next_91 rfl (Nat.le_of_ble_eq_true rfl) rfl rfl ?_
              refine ex_iload_n dX9_next_92 rfl rfl ?_
              refine ex_bipush (x := 97) dX9_next_93 rfl rfl ?_
              refine ex_bipush (x := 122) dX9_next_95 rfl rfl ?_
              refine ex_callS (rest := []) dX9_next_97 rfl qp_8_81 rfl rfl rfl (Nat.le_of_ble_eq_true rfl) (k_inL _ (hk.2 p (by omega))) (Nat.le_of_ble_eq_true rfl) ?_
              show Ex qm_lay _ mX9_next 100 [some (.ref 55), some (.int (nI (t.2 p))), none] [.int (b2i (tIsL (t.2 p)))] (qm_wI (qm_wI (qm_wI σ1 37 (nI p)) 38 0) 39 0) _ _
              refine ex_if_eq (q := 217) (q2 := 103) dX9_next_100 rfl rfl (fun _ => ?_) (fun hh => absurd (b2i_0.mpr (by simpa using c2)) hh)
              refine ex_iload_n dX9_next_217 rfl rfl ?_
              refine ex_bipush (x := 48) dX9_next_218 rfl rfl ?_
              refine ex_bipush (x := 57) dX9_next_220 rfl rfl ?_
              refine ex_callS (rest := []) dX9_next_222 rfl qp_8_81 rfl rfl rfl (Nat.le_of_ble_eq_true rfl) (k_inD _ (hk.2 p (by omega))) (Nat.le_of_ble_eq_true rfl) ?_
              show Ex qm_lay _ mX9_next 225 [some (.ref 55), some (.int (nI (t.2 p))), none] [.int (b2i (tIsD (t.2 p)))] (qm_wI (qm_wI (qm_wI σ1 37 (nI p)) 38 0) 39 0) _ _
              refine ex_if_eq (q := 326) (q2 := 228) dX9_next_225 rfl rfl (fun _ => ?_) (fun hh => absurd (b2i_0.mpr (by simpa using c3)) hh)
              refine ex_iload_n dX9_next_326 rfl rfl ?_
              refine ex_bipush (x := 40) dX9_next_327 rfl rfl ?_
              refine ex_icmp_eq (q := 374) (q2 := 332) dX9_next_329 rfl rfl (fun hh => absurd hh (fun zz => absurd ((nI_eq (a := (t.2 p)) (b := 40) (by omega) (by omega)).mp zz) (by omega))) (fun _ => ?_)
              refine ex_iload_n dX9_next_332 rfl rfl ?_
              refine ex_bipush (x := 41) dX9_next_333 rfl rfl ?_
              refine ex_icmp_eq (q := 374) (q2 := 338) dX9_next_335 rfl rfl (fun hh => absurd hh (fun zz => absurd ((nI_eq (a := (t.2 p)) (b := 41) (by omega) (by omega)).mp zz) (by omega))) (fun _ => ?_)
              refine ex_iload_n dX9_next_338 rfl rfl ?_
              refine ex_bipush (x := 59) dX9_next_339 rfl rfl ?_
              refine ex_icmp_eq (q := 374) (q2 := 344) dX9_next_341 rfl rfl (fun hh => absurd hh (fun zz => absurd ((nI_eq (a := (t.2 p)) (b := 59) (by omega) (by omega)).mp zz) (by omega))) (fun _ => ?_)
              refine ex_iload_n dX9_next_344 rfl rfl ?_
              refine ex_bipush (x := 43) dX9_next_345 rfl rfl ?_
              refine ex_icmp_eq (q := 374) (q2 := 350) dX9_next_347 rfl rfl (fun hh => absurd hh (fun zz => absurd ((nI_eq (a := (t.2 p)) (b := 43) (by omega) (by omega)).mp zz) (by omega))) (fun _ => ?_)
              refine ex_iload_n dX9_next_350 rfl rfl ?_
              refine ex_bipush (x := 45) dX9_next_351 rfl rfl ?_
              refine ex_icmp_eq (q := 374) (q2 := 356) dX9_next_353 rfl rfl (fun hh => absurd hh (fun zz => absurd ((nI_eq (a := (t.2 p)) (b := 45) (by omega) (by omega)).mp zz) (by omega))) (fun _ => ?_)
              refine ex_iload_n dX9_next_356 rfl rfl ?_
              refine ex_bipush (x := 42) dX9_next_357 rfl rfl ?_
              refine ex_icmp_eq (q := 374) (q2 := 362) dX9_next_359 rfl rfl (fun _ => ?_) (fun hh => absurd (congrArg nI (show (t.2 p) = 42 by omega)) hh)
              refine ex_iconst (x := 1) dX9_next_374 rfl rfl ?_
              refine ex_goto (q := 379) dX9_next_375 rfl ?_
              refine ex_istore_n (ls' := [some (.ref 55), some (.int (nI (t.2 p))), some (.int 1)]) dX9_next_379 rfl (Nat.le_of_ble_eq_true rfl) rfl rfl ?_
              refine ex_aload_n dX9_next_380 rfl rfl ?_
              refine ex_iload_n dX9_next_381 rfl rfl ?_
              refine ex_if_eq (q := 389) (q2 := 385) dX9_next_382 rfl rfl (fun hh => absurd hh (by decide)) (fun _ => ?_)
              refine ex_iload_n dX9_next_385 rfl rfl ?_
              refine ex_goto (q := 390) dX9_next_386 rfl ?_
              refine ex_put (σ' := qm_wI (qm_wI (qm_wI (qm_wI σ1 37 (nI p)) 38 0) 39 0) 38 (nI (t.2 p))) dX9_next_390 rfl qp_8_120 rfl rfl (Or.inl rfl) rfl ?_
              refine ex_aload_n dX9_next_393 rfl rfl ?_
              refine ex_dup dX9_next_394 rfl rfl ?_
              refine ex_getI (s := 36) (x := nI p) dX9_next_395 rfl qp_8_114 rfl rfl (h36) ?_
              refine ex_iconst (x := 1) dX9_next_398 rfl rfl ?_
              refine ex_iadd (z := nI (p + 1)) dX9_next_399 rfl (nI_add p 1) ?_
              refine ex_put (σ' := qm_wI (qm_wI (qm_wI (qm_wI (qm_wI σ1 37 (nI p)) 38 0) 39 0) 38 (nI (t.2 p))) 36 (nI (p + 1))) dX9_next_400 rfl qp_8_114 rfl rfl (Or.inl rfl) rfl ?_
              exact ex_vret dX9_next_403 rfl rfl rfl
            · refine ex_aload_n dX9_next_52 rfl rfl ?_
              refine ex_aload_n dX9_next_53 rfl rfl ?_
              refine ex_getI (s := 36) (x := nI p) dX9_next_54 rfl qp_8_114 rfl rfl (h36) ?_
              refine ex_put (σ' := qm_wI σ1 37 (nI p)) dX9_next_57 rfl qp_8_117 rfl rfl (Or.inl rfl) rfl ?_
              refine ex_aload_n dX9_next_60 rfl rfl ?_
              refine ex_iconst (x := 0) dX9_next_61 rfl rfl ?_
              refine ex_put (σ' := qm_wI (qm_wI σ1 37 (nI p)) 38 0) dX9_next_62 rfl qp_8_120 rfl rfl (Or.inl rfl) rfl ?_
              refine ex_aload_n dX9_next_65 rfl rfl ?_
              refine ex_iconst (x := 0) dX9_next_66 rfl rfl ?_
              refine ex_put (σ' := qm_wI (qm_wI (qm_wI σ1 37 (nI p)) 38 0) 39 0) dX9_next_67 rfl qp_8_123 rfl rfl (Or.inl rfl) rfl ?_
              refine ex_aload_n dX9_next_70 rfl rfl ?_
              refine ex_getI (s := 36) (x := nI p) dX9_next_71 rfl qp_8_114 rfl rfl (h36) ?_
              refine ex_aload_n dX9_next_74 rfl rfl ?_
              refine ex_getI (s := 29) (x := nI t.1) dX9_next_75 rfl qp_8_70 rfl rfl (hP.1) ?_
              refine ex_icmp_ne (q := 82) (q2 := 81) dX9_next_78 rfl rfl (fun _ => ?_) (fun hh => absurd (fun zz => absurd ((nI_eq (a := p) (b := t.1) (by omega) (by omega)).mp zz) (by omega)) hh)
              refine ex_aload_n dX9_next_82 rfl rfl ?_
              refine ex_getR (b := 61) dX9_next_83 rfl qp_8_25 rfl rfl ?_
              refine ex_aload_n dX9_next_86 rfl rfl ?_
              refine ex_getI (s := 36) (x := nI p) dX9_next_87 rfl qp_8_114 rfl rfl (h36) ?_
              refine ex_iaload (k := p) (x := nI (t.2 p)) dX9_next_90 rfl rfl (rfl) (by omega) (by decide) (hP.2 _ (by omega)) ?_
              refine ex_istore_n (ls' := [some (.ref 55), some (.int (nI (t.2 p))), none]) dX9_next_91 rfl (Nat.le_of_ble_eq_true rfl) rfl rfl ?_
              refine ex_iload_n dX9_next_92 rfl rfl ?_
              refine ex_bipush (x := 97) dX9_next_93 rfl rfl ?_
              refine ex_bipush (x := 122) dX9_next_95 rfl rfl ?_
              refine ex_callS (rest := []) dX9_next_97 rfl qp_8_81 rfl rfl rfl (Nat.le_of_ble_eq_true rfl) (k_inL _ (hk.2 p (by omega))) (Nat.le_of_ble_eq_true rfl) ?_
              show Ex qm_lay _ mX9_next 100 [some (.ref 55), some (.int (nI (t.2 p))), none] [.int (b2i (tIsL (t.2 p)))] (qm_wI (qm_wI (qm_wI σ1 37 (nI p)) 38 0) 39 0) _ _
              refine ex_if_eq (q := 217) (q2 := 103) dX9_next_100 rfl rfl (fun _ => ?_) (fun hh => absurd (b2i_0.mpr (by simpa using c2)) hh)
              refine ex_iload_n dX9_next_217 rfl rfl ?_
              refine ex_bipush (x := 48) dX9_next_218 rfl rfl ?_
              refine ex_bipush (x := 57) dX9_next_220 rfl rfl ?_
              refine ex_callS (rest := []) dX9_next_222 rfl qp_8_81 rfl rfl rfl (Nat.le_of_ble_eq_true rfl) (k_inD _ (hk.2 p (by omega))) (Nat.le_of_ble_eq_true rfl) ?_
              show Ex qm_lay _ mX9_next 225 [some (.ref 55), some (.int (nI (t.2 p))), none] [.int (b2i (tIsD (t.2 p)))] (qm_wI (qm_wI (qm_wI σ1 37 (nI p)) 38 0) 39 0) _ _
              refine ex_if_eq (q := 326) (q2 := 228) dX9_next_225 rfl rfl (fun _ => ?_) (fun hh => absurd (b2i_0.mpr (by simpa using c3)) hh)
              refine ex_iload_n dX9_next_326 rfl rfl ?_
              refine ex_bipush (x := 40) dX9_next_327 rfl rfl ?_
              refine ex_icmp_eq (q := 374) (q2 := 332) dX9_next_329 rfl rfl (fun hh => absurd hh (fun zz => absurd ((nI_eq (a := (t.2 p)) (b := 40) (by omega) (by omega)).mp zz) (by omega))) (fun _ => ?_)
              refine ex_iload_n dX9_next_332 rfl rfl ?_
              refine ex_bipush (x := 41) dX9_next_333 rfl rfl ?_
              refine ex_icmp_eq (q := 374) (q2 := 338) dX9_next_335 rfl rfl (fun hh => absurd hh (fun zz => absurd ((nI_eq (a := (t.2 p)) (b := 41) (by omega) (by omega)).mp zz) (by omega))) (fun _ => ?_)
              refine ex_iload_n dX9_next_338 rfl rfl ?_
              refine ex_bipush (x := 59) dX9_next_339 rfl rfl ?_
              refine ex_icmp_eq (q := 374) (q2 := 344) dX9_next_341 rfl rfl (fun hh => absurd hh (fun zz => absurd ((nI_eq (a := (t.2 p)) (b := 59) (by omega) (by omega)).mp zz) (by omega))) (fun _ => ?_)
              refine ex_iload_n dX9_next_344 rfl rfl ?_
              refine ex_bipush (x := 43) dX9_next_345 rfl rfl ?_
              refine ex_icmp_eq (q := 374) (q2 := 350) dX9_next_347 rfl rfl (fun hh => absurd hh (fun zz => absurd ((nI_eq (a := (t.2 p)) (b := 43) (by omega) (by omega)).mp zz) (by omega))) (fun _ => ?_)
              refine ex_iload_n dX9_next_350 rfl rfl ?_
              refine ex_bipush (x := 45) dX9_next_351 rfl rfl ?_
              refine ex_icmp_eq (q := 374) (q2 := 356) dX9_next_353 rfl rfl (fun hh => absurd hh (fun zz => absurd ((nI_eq (a := (t.2 p)) (b := 45) (by omega) (by omega)).mp zz) (by omega))) (fun _ => ?_)
              refine ex_iload_n dX9_next_356 rfl rfl ?_
              refine ex_bipush (x := 42) dX9_next_357 rfl rfl ?_
              refine ex_icmp_eq (q := 374) (q2 := 362) dX9_next_359 rfl rfl (fun hh => absurd hh (fun zz => absurd ((nI_eq (a := (t.2 p)) (b := 42) (by omega) (by omega)).mp zz) (by omega))) (fun _ => ?_)
              refine ex_iload_n dX9_next_362 rfl rfl ?_
              refine ex_bipush (x := 60) dX9_next_363 rfl rfl ?_
              refine ex_icmp_eq (q := 374) (q2 := 368) dX9_next_365 rfl rfl (fun _ => ?_) (fun hh => absurd (congrArg nI (show (t.2 p) = 60 by omega)) hh)
              refine ex_iconst (x := 1) dX9_next_374 rfl rfl ?_
              refine ex_goto (q := 379) dX9_next_375 rfl ?_
              refine ex_istore_n (ls' := [some (.ref 55), some (.int (nI (t.2 p))), some (.int 1)]) dX9_next_379 rfl (Nat.le_of_ble_eq_true rfl) rfl rfl ?_
              refine ex_aload_n dX9_next_380 rfl rfl ?_
              refine ex_iload_n dX9_next_381 rfl rfl ?_
              refine ex_if_eq (q := 389) (q2 := 385) dX9_next_382 rfl rfl (fun hh => absurd hh (by decide)) (fun _ => ?_)
              refine ex_iload_n dX9_next_385 rfl rfl ?_
              refine ex_goto (q := 390) dX9_next_386 rfl ?_
              refine ex_put (σ' := qm_wI (qm_wI (qm_wI (qm_wI σ1 37 (nI p)) 38 0) 39 0) 38 (nI (t.2 p))) dX9_next_390 rfl qp_8_120 rfl rfl (Or.inl rfl) rfl ?_
              refine ex_aload_n dX9_next_393 rfl rfl ?_
              refine ex_dup dX9_next_394 rfl rfl ?_
              refine ex_getI (s := 36) (x := nI p) dX9_next_395 rfl qp_8_114 rfl rfl (h36) ?_
              refine ex_iconst (x := 1) dX9_next_398 rfl rfl ?_
              refine ex_iadd (z := nI (p + 1)) dX9_next_399 rfl (nI_add p 1) ?_
              refine ex_put (σ' := qm_wI (qm_wI (qm_wI (qm_wI (qm_wI σ1 37 (nI p)) 38 0) 39 0) 38 (nI (t.2 p))) 36 (nI (p + 1))) dX9_next_400 rfl qp_8_114 rfl rfl (Or.inl rfl) rfl ?_
              exact ex_vret dX9_next_403 rfl rfl rfl
            · refine ex_aload_n dX9_next_52 rfl rfl ?_
              refine ex_aload_n dX9_next_53 rfl rfl ?_
              refine ex_getI (s := 36) (x := nI p) dX9_next_54 rfl qp_8_114 rfl rfl (h36) ?_
              refine ex_put (σ' := qm_wI σ1 37 (nI p)) dX9_next_57 rfl qp_8_117 rfl rfl (Or.inl rfl) rfl ?_
              refine ex_aload_n dX9_next_60 rfl rfl ?_
              refine ex_iconst (x := 0) dX9_next_61 rfl rfl ?_
              refine ex_put (σ' := qm_wI (qm_wI σ1 37 (nI p)) 38 0) dX9_next_62 rfl qp_8_120 rfl rfl (Or.inl rfl) rfl ?_
              refine ex_aload_n dX9_next_65 rfl rfl ?_
              refine ex_iconst (x := 0) dX9_next_66 rfl rfl ?_
              refine ex_put (σ' := qm_wI (qm_wI (qm_wI σ1 37 (nI p)) 38 0) 39 0) dX9_next_67 rfl qp_8_123 rfl rfl (Or.inl rfl) rfl ?_
              refine ex_aload_n dX9_next_70 rfl rfl ?_
              refine ex_getI (s := 36) (x := nI p) dX9_next_71 rfl qp_8_114 rfl rfl (h36) ?_
              refine ex_aload_n dX9_next_74 rfl rfl ?_
              refine ex_getI (s := 29) (x := nI t.1) dX9_next_75 rfl qp_8_70 rfl rfl (hP.1) ?_
              refine ex_icmp_ne (q := 82) (q2 := 81) dX9_next_78 rfl rfl (fun _ => ?_) (fun hh => absurd (fun zz => absurd ((nI_eq (a := p) (b := t.1) (by omega) (by omega)).mp zz) (by omega)) hh)
              refine ex_aload_n dX9_next_82 rfl rfl ?_
              refine ex_getR (b := 61) dX9_next_83 rfl qp_8_25 rfl rfl ?_
              refine ex_aload_n dX9_next_86 rfl rfl ?_
              refine ex_getI (s := 36) (x := nI p) dX9_next_87 rfl qp_8_114 rfl rfl (h36) ?_
              refine ex_iaload (k := p) (x := nI (t.2 p)) dX9_next_90 rfl rfl (rfl) (by omega) (by decide) (hP.2 _ (by omega)) ?_
              refine ex_istore_n (ls' := [some (.ref 55), some (.int (nI (t.2 p))), none]) dX9_next_91 rfl (Nat.le_of_ble_eq_true rfl) rfl rfl ?_
              refine ex_iload_n dX9_next_92 rfl rfl ?_
              refine ex_bipush (x := 97) dX9_next_93 rfl rfl ?_
              refine ex_bipush (x := 122) dX9_next_95 rfl rfl ?_
              refine ex_callS (rest := []) dX9_next_97 rfl qp_8_81 rfl rfl rfl (Nat.le_of_ble_eq_true rfl) (k_inL _ (hk.2 p (by omega))) (Nat.le_of_ble_eq_true rfl) ?_
              show Ex qm_lay _ mX9_next 100 [some (.ref 55), some (.int (nI (t.2 p))), none] [.int (b2i (tIsL (t.2 p)))] (qm_wI (qm_wI (qm_wI σ1 37 (nI p)) 38 0) 39 0) _ _
              refine ex_if_eq (q := 217) (q2 := 103) dX9_next_100 rfl rfl (fun _ => ?_) (fun hh => absurd (b2i_0.mpr (by simpa using c2)) hh)
              refine ex_iload_n dX9_next_217 rfl rfl ?_
              refine ex_bipush (x := 48) dX9_next_218 rfl rfl ?_
              refine ex_bipush (x := 57) dX9_next_220 rfl rfl ?_
              refine ex_callS (rest := []) dX9_next_222 rfl qp_8_81 rfl rfl rfl (Nat.le_of_ble_eq_true rfl) (k_inD _ (hk.2 p (by omega))) (Nat.le_of_ble_eq_true rfl) ?_
              show Ex qm_lay _ mX9_next 225 [some (.ref 55), some (.int (nI (t.2 p))), none] [.int (b2i (tIsD (t.2 p)))] (qm_wI (qm_wI (qm_wI σ1 37 (nI p)) 38 0) 39 0) _ _
              refine ex_if_eq (q := 326) (q2 := 228) dX9_next_225 rfl rfl (fun _ => ?_) (fun hh => absurd (b2i_0.mpr (by simpa using c3)) hh)
              refine ex_iload_n dX9_next_326 rfl rfl ?_
              refine ex_bipush (x := 40) dX9_next_327 rfl rfl ?_
              refine ex_icmp_eq (q := 374) (q2 := 332) dX9_next_329 rfl rfl (fun hh => absurd hh (fun zz => absurd ((nI_eq (a := (t.2 p)) (b := 40) (by omega) (by omega)).mp zz) (by omega))) (fun _ => ?_)
              refine ex_iload_n dX9_next_332 rfl rfl ?_
              refine ex_bipush (x := 41) dX9_next_333 rfl rfl ?_
              refine ex_icmp_eq (q := 374) (q2 := 338) dX9_next_335 rfl rfl (fun hh => absurd hh (fun zz => absurd ((nI_eq (a := (t.2 p)) (b := 41) (by omega) (by omega)).mp zz) (by omega))) (fun _ => ?_)
              refine ex_iload_n dX9_next_338 rfl rfl ?_
              refine ex_bipush (x := 59) dX9_next_339 rfl rfl ?_
              refine ex_icmp_eq (q := 374) (q2 := 344) dX9_next_341 rfl rfl (fun hh => absurd hh (fun zz => absurd ((nI_eq (a := (t.2 p)) (b := 59) (by omega) (by omega)).mp zz) (by omega))) (fun _ => ?_)
              refine ex_iload_n dX9_next_344 rfl rfl ?_
              refine ex_bipush (x := 43) dX9_next_345 rfl rfl ?_
              refine ex_icmp_eq (q := 374) (q2 := 350) dX9_next_347 rfl rfl (fun hh => absurd hh (fun zz => absurd ((nI_eq (a := (t.2 p)) (b := 43) (by omega) (by omega)).mp zz) (by omega))) (fun _ => ?_)
              refine ex_iload_n dX9_next_350 rfl rfl ?_
              refine ex_bipush (x := 45) dX9_next_351 rfl rfl ?_
              refine ex_icmp_eq (q := 374) (q2 := 356) dX9_next_353 rfl rfl (fun hh => absurd hh (fun zz => absurd ((nI_eq (a := (t.2 p)) (b := 45) (by omega) (by omega)).mp zz) (by omega))) (fun _ => ?_)
              refine ex_iload_n dX9_next_356 rfl rfl ?_
              refine ex_bipush (x := 42) dX9_next_357 rfl rfl ?_
              refine ex_icmp_eq (q := 374) (q2 := 362) dX9_next_359 rfl rfl (fun hh => absurd hh (fun zz => absurd ((nI_eq (a := (t.2 p)) (b := 42) (by omega) (by omega)).mp zz) (by omega))) (fun _ => ?_)
              refine ex_iload_n dX9_next_362 rfl rfl ?_
              refine ex_bipush (x := 60) dX9_next_363 rfl rfl ?_
              refine ex_icmp_eq (q := 374) (q2 := 368) dX9_next_365 rfl rfl (fun hh => absurd hh (fun zz => absurd ((nI_eq (a := (t.2 p)) (b := 60) (by omega) (by omega)).mp zz) (by omega))) (fun _ => ?_)
              refine ex_iload_n dX9_next_368 rfl rfl ?_
              refine ex_bipush (x := 61) dX9_next_369 rfl rfl ?_
              refine ex_icmp_ne (q := 378) (q2 := 374) dX9_next_371 rfl rfl (fun hh => absurd hh (fun zz => zz (congrArg nI (show (t.2 p) = 61 by omega)))) (fun _ => ?_)
              refine ex_iconst (x := 1) dX9_next_374 rfl rfl ?_
              refine ex_goto (q := 379) dX9_next_375 rfl ?_
              refine ex_istore_n (ls' := [some (.ref 55), some (.int (nI (t.2 p))), some (.int 1)]) dX9_next_379 rfl (Nat.le_of_ble_eq_true rfl) rfl rfl ?_
              refine ex_aload_n dX9_next_380 rfl rfl ?_
              refine ex_iload_n dX9_next_381 rfl rfl ?_
              refine ex_if_eq (q := 389) (q2 := 385) dX9_next_382 rfl rfl (fun hh => absurd hh (by decide)) (fun _ => ?_)
              refine ex_iload_n dX9_next_385 rfl rfl ?_
              refine ex_goto (q := 390) dX9_next_386 rfl ?_
              refine ex_put (σ' := qm_wI (qm_wI (qm_wI (qm_wI σ1 37 (nI p)) 38 0) 39 0) 38 (nI (t.2 p))) dX9_next_390 rfl qp_8_120 rfl rfl (Or.inl rfl) rfl ?_
              refine ex_aload_n dX9_next_393 rfl rfl ?_
              refine ex_dup dX9_next_394 rfl rfl ?_
              refine ex_getI (s := 36) (x := nI p) dX9_next_395 rfl qp_8_114 rfl rfl (h36) ?_
              refine ex_iconst (x := 1) dX9_next_398 rfl rfl ?_
              refine ex_iadd (z := nI (p + 1)) dX9_next_399 rfl (nI_add p 1) ?_
              refine ex_put (σ' := qm_wI (qm_wI (qm_wI (qm_wI (qm_wI σ1 37 (nI p)) 38 0) 39 0) 38 (nI (t.2 p))) 36 (nI (p + 1))) dX9_next_400 rfl qp_8_114 rfl rfl (Or.inl rfl) rfl ?_
              exact ex_vret dX9_next_403 rfl rfl rfl
          · rw [rI_wI, if_neg (by decide), rI_wI, if_pos rfl]; exact ert.symm
          · have z2 : t.2 p = 1 ∨ t.2 p = 2 := z
            omega
          · have z2 : 4 ≤ t.2 p ∧ t.2 p < 7 := z
            omega
          · rw [rI_wI, if_pos rfl]
        · rw [if_neg c4]
          have hn : ∀ d, tIsS d = true → t.2 p ≠ d := fun d hd z => c4 (by rw [z]; exact hd)
          have n40 := hn 40 rfl
          have n41 := hn 41 rfl
          have n59 := hn 59 rfl
          have n43 := hn 43 rfl
          have n45 := hn 45 rfl
          have n42 := hn 42 rfl
          have n60 := hn 60 rfl
          have n61 := hn 61 rfl
          refine ⟨qm_wI (qm_wI (qm_wI (qm_wI (qm_wI σ1 37 (nI p)) 38 0) 39 0) 38 (-1)) 36 (nI (p + 1)), ?_, ⟨i37' _ _, ?_, fun z => ?_, fun z => ?_, fun z => absurd rfl z⟩, (hg.wI (s := 38) _ (by omega)).wI (s := 36) _ (by omega)⟩
          · refine ex_aload_n dX9_next_52 rfl rfl ?_
            refine ex_aload_n dX9_next_53 rfl rfl ?_
            refine ex_getI (s := 36) (x := nI p) dX9_next_54 rfl qp_8_114 rfl rfl (h36) ?_
            refine ex_put (σ' := qm_wI σ1 37 (nI p)) dX9_next_57 rfl qp_8_117 rfl rfl (Or.inl rfl) rfl ?_
            refine ex_aload_n dX9_next_60 rfl rfl ?_
            refine ex_iconst (x := 0) dX9_next_61 rfl rfl ?_
            refine ex_put (σ' := qm_wI (qm_wI σ1 37 (nI p)) 38 0) dX9_next_62 rfl qp_8_120 rfl rfl (Or.inl rfl) rfl ?_
            refine ex_aload_n dX9_next_65 rfl rfl ?_
            refine ex_iconst (x := 0) dX9_next_66 rfl rfl ?_
            refine ex_put (σ' := qm_wI (qm_wI (qm_wI σ1 37 (nI p)) 38 0) 39 0) dX9_next_67 rfl qp_8_123 rfl rfl (Or.inl rfl) rfl ?_
            refine ex_aload_n dX9_next_70 rfl rfl ?_
            refine ex_getI (s := 36) (x := nI p) dX9_next_71 rfl qp_8_114 rfl rfl (h36) ?_
            refine ex_aload_n dX9_next_74 rfl rfl ?_
            refine ex_getI (s := 29) (x := nI t.1) dX9_next_75 rfl qp_8_70 rfl rfl (hP.1) ?_
            refine ex_icmp_ne (q := 82) (q2 := 81) dX9_next_78 rfl rfl (fun _ => ?_) (fun hh => absurd (fun zz => absurd ((nI_eq (a := p) (b := t.1) (by omega) (by omega)).mp zz) (by omega)) hh)
            refine ex_aload_n dX9_next_82 rfl rfl ?_
            refine ex_getR (b := 61) dX9_next_83 rfl qp_8_25 rfl rfl ?_
            refine ex_aload_n dX9_next_86 rfl rfl ?_
            refine ex_getI (s := 36) (x := nI p) dX9_next_87 rfl qp_8_114 rfl rfl (h36) ?_
            refine ex_iaload (k := p) (x := nI (t.2 p)) dX9_next_90 rfl rfl (rfl) (by omega) (by decide) (hP.2 _ (by omega)) ?_
            refine ex_istore_n (ls' := [some (.ref 55), some (.int (nI (t.2 p))), none]) dX9_next_91 rfl (Nat.le_of_ble_eq_true rfl) rfl rfl ?_
            refine ex_iload_n dX9_next_92 rfl rfl ?_
            refine ex_bipush (x := 97) dX9_next_93 rfl rfl ?_
            refine ex_bipush (x := 122) dX9_next_95 rfl rfl ?_
            refine ex_callS (rest := []) dX9_next_97 rfl qp_8_81 rfl rfl rfl (Nat.le_of_ble_eq_true rfl) (k_inL _ (hk.2 p (by omega))) (Nat.le_of_ble_eq_true rfl) ?_
            show Ex qm_lay _ mX9_next 100 [some (.ref 55), some (.int (nI (t.2 p))), none] [.int (b2i (tIsL (t.2 p)))] (qm_wI (qm_wI (qm_wI σ1 37 (nI p)) 38 0) 39 0) _ _
            refine ex_if_eq (q := 217) (q2 := 103) dX9_next_100 rfl rfl (fun _ => ?_) (fun hh => absurd (b2i_0.mpr (by simpa using c2)) hh)
            refine ex_iload_n dX9_next_217 rfl rfl ?_
            refine ex_bipush (x := 48) dX9_next_218 rfl rfl ?_
            refine ex_bipush (x := 57) dX9_next_220 rfl rfl ?_
            refine ex_callS (rest := []) dX9_next_222 rfl qp_8_81 rfl rfl rfl (Nat.le_of_ble_eq_true rfl) (k_inD _ (hk.2 p (by omega))) (Nat.le_of_ble_eq_true rfl) ?_
            show Ex qm_lay _ mX9_next 225 [some (.ref 55), some (.int (nI (t.2 p))), none] [.int (b2i (tIsD (t.2 p)))] (qm_wI (qm_wI (qm_wI σ1 37 (nI p)) 38 0) 39 0) _ _
            refine ex_if_eq (q := 326) (q2 := 228) dX9_next_225 rfl rfl (fun _ => ?_) (fun hh => absurd (b2i_0.mpr (by simpa using c3)) hh)
            refine ex_iload_n dX9_next_326 rfl rfl ?_
            refine ex_bipush (x := 40) dX9_next_327 rfl rfl ?_
            refine ex_icmp_eq (q := 374) (q2 := 332) dX9_next_329 rfl rfl (fun hh => absurd hh (fun zz => absurd ((nI_eq (a := (t.2 p)) (b := 40) (by omega) (by omega)).mp zz) (by omega))) (fun _ => ?_)
            refine ex_iload_n dX9_next_332 rfl rfl ?_
            refine ex_bipush (x := 41) dX9_next_333 rfl rfl ?_
            refine ex_icmp_eq (q := 374) (q2 := 338) dX9_next_335 rfl rfl (fun hh => absurd hh (fun zz => absurd ((nI_eq (a := (t.2 p)) (b := 41) (by omega) (by omega)).mp zz) (by omega))) (fun _ => ?_)
            refine ex_iload_n dX9_next_338 rfl rfl ?_
            refine ex_bipush (x := 59) dX9_next_339 rfl rfl ?_
            refine ex_icmp_eq (q := 374) (q2 := 344) dX9_next_341 rfl rfl (fun hh => absurd hh (fun zz => absurd ((nI_eq (a := (t.2 p)) (b := 59) (by omega) (by omega)).mp zz) (by omega))) (fun _ => ?_)
            refine ex_iload_n dX9_next_344 rfl rfl ?_
            refine ex_bipush (x := 43) dX9_next_345 rfl rfl ?_
            refine ex_icmp_eq (q := 374) (q2 := 350) dX9_next_347 rfl rfl (fun hh => absurd hh (fun zz => absurd ((nI_eq (a := (t.2 p)) (b := 43) (by omega) (by omega)).mp zz) (by omega))) (fun _ => ?_)
            refine ex_iload_n dX9_next_350 rfl rfl ?_
            refine ex_bipush (x := 45) dX9_next_351 rfl rfl ?_
            refine ex_icmp_eq (q := 374) (q2 := 356) dX9_next_353 rfl rfl (fun hh => absurd hh (fun zz => absurd ((nI_eq (a := (t.2 p)) (b := 45) (by omega) (by omega)).mp zz) (by omega))) (fun _ => ?_)
            refine ex_iload_n dX9_next_356 rfl rfl ?_
            refine ex_bipush (x := 42) dX9_next_357 rfl rfl ?_
            refine ex_icmp_eq (q := 374) (q2 := 362) dX9_next_359 rfl rfl (fun hh => absurd hh (fun zz => absurd ((nI_eq (a := (t.2 p)) (b := 42) (by omega) (by omega)).mp zz) (by omega))) (fun _ => ?_)
            refine ex_iload_n dX9_next_362 rfl rfl ?_
            refine ex_bipush (x := 60) dX9_next_363 rfl rfl ?_
            refine ex_icmp_eq (q := 374) (q2 := 368) dX9_next_365 rfl rfl (fun hh => absurd hh (fun zz => absurd ((nI_eq (a := (t.2 p)) (b := 60) (by omega) (by omega)).mp zz) (by omega))) (fun _ => ?_)
            refine ex_iload_n dX9_next_368 rfl rfl ?_
            refine ex_bipush (x := 61) dX9_next_369 rfl rfl ?_
            refine ex_icmp_ne (q := 378) (q2 := 374) dX9_next_371 rfl rfl (fun _ => ?_) (fun hh => absurd (fun zz => absurd ((nI_eq (a := (t.2 p)) (b := 61) (by omega) (by omega)).mp zz) (by omega)) hh)
            refine ex_iconst (x := 0) dX9_next_378 rfl rfl ?_
            refine ex_istore_n (ls' := [some (.ref 55), some (.int (nI (t.2 p))), some (.int 0)]) dX9_next_379 rfl (Nat.le_of_ble_eq_true rfl) rfl rfl ?_
            refine ex_aload_n dX9_next_380 rfl rfl ?_
            refine ex_iload_n dX9_next_381 rfl rfl ?_
            refine ex_if_eq (q := 389) (q2 := 385) dX9_next_382 rfl rfl (fun _ => ?_) (fun hh => absurd (by decide) hh)
            refine ex_iconst (x := (-1)) dX9_next_389 rfl rfl ?_
            refine ex_put (σ' := qm_wI (qm_wI (qm_wI (qm_wI σ1 37 (nI p)) 38 0) 39 0) 38 (-1)) dX9_next_390 rfl qp_8_120 rfl rfl (Or.inl rfl) rfl ?_
            refine ex_aload_n dX9_next_393 rfl rfl ?_
            refine ex_dup dX9_next_394 rfl rfl ?_
            refine ex_getI (s := 36) (x := nI p) dX9_next_395 rfl qp_8_114 rfl rfl (h36) ?_
            refine ex_iconst (x := 1) dX9_next_398 rfl rfl ?_
            refine ex_iadd (z := nI (p + 1)) dX9_next_399 rfl (nI_add p 1) ?_
            refine ex_put (σ' := qm_wI (qm_wI (qm_wI (qm_wI (qm_wI σ1 37 (nI p)) 38 0) 39 0) 38 (-1)) 36 (nI (p + 1))) dX9_next_400 rfl qp_8_114 rfl rfl (Or.inl rfl) rfl ?_
            exact ex_vret dX9_next_403 rfl rfl rfl
          · rw [rI_wI, if_neg (by decide), rI_wI, if_pos rfl]; rfl
          · rcases z with z | z <;> cases z
          · exact absurd z.1 (show ¬ 4 ≤ 3 by decide)

set_option maxRecDepth 8000 in
set_option maxHeartbeats 2000000 in
theorem l_nx0 {t : gt_T} (hk : gt_ok t) : ∀ (k a : Nat) (σ1 : qm_St), a + k = t.1 → PM σ1 t → KW σ1 → qm_rI σ1 36 = nI a → ∃ σ', Ex qm_lay 1 mX9_next 0 [some (.ref 55), none, none] [] σ1 none σ' ∧ LXM σ' (lx1 t (rn tIsB t.2 k a)) ∧ sm σ1 σ' 36 40 0 0 := by
  have h160 := hk.1
  intro k
  induction k with
  | zero =>
    intro a σ1 ha hP hW h36
    obtain ⟨σ', hE, hL, hs⟩ := l_nx52 hk (show a ≤ t.1 by omega) hP hW h36
    refine ⟨σ', ?_, hL, hs⟩
    refine ex_aload_n dX9_next_0 rfl rfl ?_
    refine ex_getI (s := 36) (x := nI a) dX9_next_1 rfl qp_8_114 rfl rfl (h36) ?_
    refine ex_aload_n dX9_next_4 rfl rfl ?_
    refine ex_getI (s := 29) (x := nI t.1) dX9_next_5 rfl qp_8_70 rfl rfl (hP.1) ?_
    refine ex_icmp_ge (q := 52) (q2 := 11) dX9_next_8 rfl rfl (fun _ => ?_) (fun hh => absurd (nI_le (a := t.1) (b := a) (by omega) (by omega)) hh)
    exact hE
  | succ k ih =>
    intro a σ1 ha hP hW h36
    have hb := hk.2 a (by omega)
    by_cases c : tIsB (t.2 a) = true
    · have hg : sm σ1 (qm_wI σ1 36 (nI (a + 1))) 36 40 0 0 := (sm.rf σ1 36 40 0 0).wI _ (by omega)
      obtain ⟨σ', hE, hL, hs⟩ := ih (a + 1) (qm_wI σ1 36 (nI (a + 1))) (by omega) hP hW (by rw [rI_wI, if_pos rfl])
      rw [show rn tIsB t.2 (k + 1) a = rn tIsB t.2 k (a + 1) by rw [rn, if_pos c]]
      refine ⟨σ', ?_, hL, hg.tr hs⟩
      have c2 : t.2 a = 32 ∨ t.2 a = 10 := by
        unfold tIsB at c
        rw [Bool.or_eq_true] at c
        exact c.imp of_decide_eq_true of_decide_eq_true
      rcases c2 with c2 | c2
      · refine ex_aload_n dX9_next_0 rfl rfl ?_
        refine ex_getI (s := 36) (x := nI a) dX9_next_1 rfl qp_8_114 rfl rfl (h36) ?_
        refine ex_aload_n dX9_next_4 rfl rfl ?_
        refine ex_getI (s := 29) (x := nI t.1) dX9_next_5 rfl qp_8_70 rfl rfl (hP.1) ?_
        refine ex_icmp_ge (q := 52) (q2 := 11) dX9_next_8 rfl rfl (fun hh => absurd hh (nI_ge (a := a) (b := t.1) (by omega) (by omega))) (fun _ => ?_)
        refine ex_aload_n dX9_next_11 rfl rfl ?_
        refine ex_getR (b := 61) dX9_next_12 rfl qp_8_25 rfl rfl ?_
        refine ex_aload_n dX9_next_15 rfl rfl ?_
        refine ex_getI (s := 36) (x := nI a) dX9_next_16 rfl qp_8_114 rfl rfl (h36) ?_
        refine ex_iaload (k := a) (x := nI (t.2 a)) dX9_next_19 rfl rfl (rfl) (by omega) (by decide) (hP.2 _ (by omega)) ?_
        refine ex_bipush (x := 32) dX9_next_20 rfl rfl ?_
        refine ex_icmp_eq (q := 39) (q2 := 25) dX9_next_22 rfl rfl (fun _ => ?_) (fun hh => absurd (congrArg nI (show (t.2 a) = 32 by omega)) hh)
        refine ex_aload_n dX9_next_39 rfl rfl ?_
        refine ex_dup dX9_next_40 rfl rfl ?_
        refine ex_getI (s := 36) (x := nI a) dX9_next_41 rfl qp_8_114 rfl rfl (h36) ?_
        refine ex_iconst (x := 1) dX9_next_44 rfl rfl ?_
        refine ex_iadd (z := nI (a + 1)) dX9_next_45 rfl (nI_add a 1) ?_
        refine ex_put (σ' := qm_wI σ1 36 (nI (a + 1))) dX9_next_46 rfl qp_8_114 rfl rfl (Or.inl rfl) rfl ?_
        refine ex_goto (q := 0) dX9_next_49 rfl ?_
        exact hE
      · refine ex_aload_n dX9_next_0 rfl rfl ?_
        refine ex_getI (s := 36) (x := nI a) dX9_next_1 rfl qp_8_114 rfl rfl (h36) ?_
        refine ex_aload_n dX9_next_4 rfl rfl ?_
        refine ex_getI (s := 29) (x := nI t.1) dX9_next_5 rfl qp_8_70 rfl rfl (hP.1) ?_
        refine ex_icmp_ge (q := 52) (q2 := 11) dX9_next_8 rfl rfl (fun hh => absurd hh (nI_ge (a := a) (b := t.1) (by omega) (by omega))) (fun _ => ?_)
        refine ex_aload_n dX9_next_11 rfl rfl ?_
        refine ex_getR (b := 61) dX9_next_12 rfl qp_8_25 rfl rfl ?_
        refine ex_aload_n dX9_next_15 rfl rfl ?_
        refine ex_getI (s := 36) (x := nI a) dX9_next_16 rfl qp_8_114 rfl rfl (h36) ?_
        refine ex_iaload (k := a) (x := nI (t.2 a)) dX9_next_19 rfl rfl (rfl) (by omega) (by decide) (hP.2 _ (by omega)) ?_
        refine ex_bipush (x := 32) dX9_next_20 rfl rfl ?_
        refine ex_icmp_eq (q := 39) (q2 := 25) dX9_next_22 rfl rfl (fun hh => absurd hh (fun zz => absurd ((nI_eq (a := (t.2 a)) (b := 32) (by omega) (by omega)).mp zz) (by omega))) (fun _ => ?_)
        refine ex_aload_n dX9_next_25 rfl rfl ?_
        refine ex_getR (b := 61) dX9_next_26 rfl qp_8_25 rfl rfl ?_
        refine ex_aload_n dX9_next_29 rfl rfl ?_
        refine ex_getI (s := 36) (x := nI a) dX9_next_30 rfl qp_8_114 rfl rfl (h36) ?_
        refine ex_iaload (k := a) (x := nI (t.2 a)) dX9_next_33 rfl rfl (rfl) (by omega) (by decide) (hP.2 _ (by omega)) ?_
        refine ex_bipush (x := 10) dX9_next_34 rfl rfl ?_
        refine ex_icmp_ne (q := 52) (q2 := 39) dX9_next_36 rfl rfl (fun hh => absurd hh (fun zz => zz (congrArg nI (show (t.2 a) = 10 by omega)))) (fun _ => ?_)
        refine ex_aload_n dX9_next_39 rfl rfl ?_
        refine ex_dup dX9_next_40 rfl rfl ?_
        refine ex_getI (s := 36) (x := nI a) dX9_next_41 rfl qp_8_114 rfl rfl (h36) ?_
        refine ex_iconst (x := 1) dX9_next_44 rfl rfl ?_
        refine ex_iadd (z := nI (a + 1)) dX9_next_45 rfl (nI_add a 1) ?_
        refine ex_put (σ' := qm_wI σ1 36 (nI (a + 1))) dX9_next_46 rfl qp_8_114 rfl rfl (Or.inl rfl) rfl ?_
        refine ex_goto (q := 0) dX9_next_49 rfl ?_
        exact hE
    · obtain ⟨σ', hE, hL, hs⟩ := l_nx52 hk (show a ≤ t.1 by omega) hP hW h36
      rw [show rn tIsB t.2 (k + 1) a = a by rw [rn, if_neg c]]
      refine ⟨σ', ?_, hL, hs⟩
      have c2 : ¬ t.2 a = 32 ∧ ¬ t.2 a = 10 := ⟨fun z => c (by unfold tIsB; rw [z]; rfl), fun z => c (by unfold tIsB; rw [z]; rfl)⟩
      refine ex_aload_n dX9_next_0 rfl rfl ?_
      refine ex_getI (s := 36) (x := nI a) dX9_next_1 rfl qp_8_114 rfl rfl (h36) ?_
      refine ex_aload_n dX9_next_4 rfl rfl ?_
      refine ex_getI (s := 29) (x := nI t.1) dX9_next_5 rfl qp_8_70 rfl rfl (hP.1) ?_
      refine ex_icmp_ge (q := 52) (q2 := 11) dX9_next_8 rfl rfl (fun hh => absurd hh (nI_ge (a := a) (b := t.1) (by omega) (by omega))) (fun _ => ?_)
      refine ex_aload_n dX9_next_11 rfl rfl ?_
      refine ex_getR (b := 61) dX9_next_12 rfl qp_8_25 rfl rfl ?_
      refine ex_aload_n dX9_next_15 rfl rfl ?_
      refine ex_getI (s := 36) (x := nI a) dX9_next_16 rfl qp_8_114 rfl rfl (h36) ?_
      refine ex_iaload (k := a) (x := nI (t.2 a)) dX9_next_19 rfl rfl (rfl) (by omega) (by decide) (hP.2 _ (by omega)) ?_
      refine ex_bipush (x := 32) dX9_next_20 rfl rfl ?_
      refine ex_icmp_eq (q := 39) (q2 := 25) dX9_next_22 rfl rfl (fun hh => absurd hh (fun zz => absurd ((nI_eq (a := (t.2 a)) (b := 32) (by omega) (by omega)).mp zz) (by omega))) (fun _ => ?_)
      refine ex_aload_n dX9_next_25 rfl rfl ?_
      refine ex_getR (b := 61) dX9_next_26 rfl qp_8_25 rfl rfl ?_
      refine ex_aload_n dX9_next_29 rfl rfl ?_
      refine ex_getI (s := 36) (x := nI a) dX9_next_30 rfl qp_8_114 rfl rfl (h36) ?_
      refine ex_iaload (k := a) (x := nI (t.2 a)) dX9_next_33 rfl rfl (rfl) (by omega) (by decide) (hP.2 _ (by omega)) ?_
      refine ex_bipush (x := 10) dX9_next_34 rfl rfl ?_
      refine ex_icmp_ne (q := 52) (q2 := 39) dX9_next_36 rfl rfl (fun _ => ?_) (fun hh => absurd (fun zz => absurd ((nI_eq (a := (t.2 a)) (b := 10) (by omega) (by omega)).mp zz) (by omega)) hh)
      exact hE

set_option maxRecDepth 8000 in
set_option maxHeartbeats 2000000 in
theorem k_next {t : gt_T} (hk : gt_ok t) {σ : qm_St} (hP : PM σ t) (hW : KW σ) {a : Nat} (ha : a ≤ t.1) (h36 : qm_rI σ 36 = nI a) : ∃ σ', Ok qm_lay 1 mX9_next [.ref 55] σ none σ' ∧ LXM σ' (lx t a) ∧ sm σ σ' 36 40 0 0 := by
  obtain ⟨σ', hE, hL, hs⟩ := l_nx0 hk (t.1 - a) a σ (by omega) hP hW h36
  exact ⟨σ', Ok.of (ls := [some (.ref 55), none, none]) (Nat.le_of_ble_eq_true rfl) rfl hE, hL, hs⟩

