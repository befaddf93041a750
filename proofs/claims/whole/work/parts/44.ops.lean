/-- the first of k, k + 1 .. (r of them) that f picks; -1: none -/
def ff (f : Nat → Bool) : Nat → Nat → Int32
  | 0, _ => -1
  | r + 1, k => if f k = true then nI k else ff f r (k + 1)
theorem ff_cong {f g : Nat → Bool} : ∀ (r k : Nat), (∀ l, k ≤ l → l < k + r → f l = g l) → ff f r k = ff g r k
  | 0, _, _ => rfl
  | r + 1, k, h => by rw [ff, ff, h k (Nat.le_refl k) (by omega), ff_cong r (k + 1) (fun l h1 h2 => h l (by omega) (by omega))]
/-- what is wrong with a map -/
def gs_rm (T : tn_T) (S : gs_T) (x : Int32) : Int32 := if tn_in x 0 3 = true then (if S.1 x.toNatClampNeg = -1 then -11 else if S.2.1 x.toNatClampNeg = tn_L T then 0 else -2) else -2
theorem gs_rm_n {T : tn_T} {S : gs_T} {x : Int32} (h : tn_in x 0 3 = false) : gs_rm T S x = -2 := if_neg (by rw [h]; decide)
theorem gs_rm_t {T : tn_T} {S : gs_T} {s : Nat} (h : s < 4) : gs_rm T S (nI s) = if S.1 s = -1 then -11 else if S.2.1 s = tn_L T then 0 else -2 := by
  have e : tn_in (nI s) 0 3 = true := tn_in_t (n := s) (x := 0) (y := 3) (Nat.zero_le _) (by omega) (by decide)
  rw [gs_rm, if_pos e, nI_clamp (by omega)]
theorem gs_rm_0 {T : tn_T} {S : gs_T} {x : Int32} (h : gs_rm T S x = 0) : ∃ s, s < 4 ∧ x = nI s ∧ ¬ S.1 s = -1 ∧ S.2.1 s = tn_L T := by
  by_cases c : tn_in x 0 3 = true
  · obtain ⟨s, hs, rfl⟩ := tn_in_of (n := 3) (by decide) c
    rw [gs_rm_t (by omega)] at h
    refine ⟨s, by omega, rfl, fun e => ?_, ?_⟩
    · rw [if_pos e] at h; exact absurd h (by decide)
    · by_cases e : S.1 s = -1
      · rw [if_pos e] at h; exact absurd h (by decide)
      · rw [if_neg e] at h
        by_cases g : S.2.1 s = tn_L T
        · exact g
        · rw [if_neg g] at h; exact absurd h (by decide)
  · rw [gs_rm_n (by simpa using c)] at h; exact absurd h (by decide)
/-- a row made anew, of these numbers -/
def gs_mf (S : gs_T) (s : Nat) (sort : Int32) (n : Nat) (f : Nat → Int32) : gs_T := (fun q => if q = s then sort else S.1 q, fun q => if q = s then n else S.2.1 q, fun q i => if q = s then f i else S.2.2 q i)
theorem gs_mf_ok {S : gs_T} (h : gs_ok S) {s : Nat} {sort : Int32} {n : Nat} (f : Nat → Int32) (h1 : sort = -1 ∨ sort = 0 ∨ sort = 1 ∨ sort = 2) (hn : n ≤ 40) : gs_ok (gs_mf S s sort n f) := gs_mk_ok h h1 hn
theorem SMmf {σ σ' : qm_St} {S : gs_T} (h : SM σ S) {s : Nat} {sort : Int32} {n : Nat} {f : Nat → Int32} (g : sm (qm_wF (qm_wF σ 51 s sort) 52 s (nI n)) σ' 36 36 53 54) (h0 : ∀ i, i < 40 → qm_rF σ' 53 (40 * s + i) = f i) (h2 : ∀ p, (p < 40 * s ∨ 40 * s + 40 ≤ p) → qm_rF σ' 53 p = qm_rF σ 53 p) : SM σ' (gs_mf S s sort n f) := by
  intro q hq
  obtain ⟨g1, g2, g3⟩ := h q hq
  refine ⟨?_, ?_, fun i hi => ?_⟩
  · rw [g.2 _ (by omega), rF_ne (by omega)]
    show _ = if q = s then sort else S.1 q
    by_cases e : q = s
    · rw [if_pos e, rF_eqi e]
    · rw [if_neg e, rF_ne (Or.inr e)]; exact g1
  · rw [g.2 _ (by omega)]
    show _ = nI (if q = s then n else S.2.1 q)
    by_cases e : q = s
    · rw [if_pos e, rF_eqi e]
    · rw [if_neg e, rF_ne (Or.inr e), rF_ne (by omega)]; exact g2
  · show _ = if q = s then f i else S.2.2 q i
    by_cases e : q = s
    · rw [if_pos e, e]; exact h0 i hi
    · rw [if_neg e, h2 _ (by omega)]; exact g3 i hi
theorem gs_mk_pc (S : gs_T) (s : Nat) (n k : Nat) (f : Nat → Int32) : gs_pc (gs_mf S s 2 n (fun i => if i < k then f i else 0)) s k (gs_pv (gs_mf S s 2 n (fun i => if i < k then f i else 0)) s (f k)) = gs_mf S s 2 n (fun i => if i < k + 1 then f i else 0) := by
  have e0 : gs_pv (gs_mf S s 2 n (fun i => if i < k then f i else 0)) s (f k) = f k := by
    unfold gs_pv
    have e : (gs_mf S s 2 n (fun i => if i < k then f i else 0)).1 s = 2 := if_pos rfl
    rw [e, if_neg (by decide), if_neg (by decide)]
  rw [e0]
  show ((fun q => if q = s then (2 : Int32) else S.1 q), (fun q => if q = s then n else S.2.1 q), (fun q i => if q = s ∧ i = k then f k else if q = s then (if i < k then f i else 0) else S.2.2 q i)) = ((fun q => if q = s then (2 : Int32) else S.1 q), (fun q => if q = s then n else S.2.1 q), (fun q i => if q = s then (if i < k + 1 then f i else 0) else S.2.2 q i))
  congr 2
  funext q i
  by_cases e : q = s
  · rw [if_pos e, if_pos e]
    by_cases g : i = k
    · rw [if_pos ⟨e, g⟩, g, if_pos (Nat.lt_succ_self k)]
    · rw [if_neg (fun z => g z.2)]
      by_cases c : i < k
      · rw [if_pos c, if_pos (by omega)]
      · rw [if_neg c, if_neg (by omega)]
  · rw [if_neg e, if_neg e, if_neg (fun z => e z.1)]

set_option maxHeartbeats 2000000 in
theorem l_sheetM {σ : qm_St} {s : Nat} (hs4 : s < 4) (x n : Int32) : ∀ (r k : Nat) (σ1 : qm_St), k + r = 40 → sm σ σ1 36 36 53 54 → ((∀ i, i < k → qm_rF σ1 53 (40 * s + i) = (0 : Int32)) ∧ (∀ p, (p < 40 * s ∨ 40 * s + k ≤ p) → qm_rF σ1 53 p = qm_rF σ 53 p)) → ∃ σ', sm σ σ' 36 36 53 54 ∧ ((∀ i, i < 40 → qm_rF σ' 53 (40 * s + i) = (0 : Int32)) ∧ (∀ p, (p < 40 * s ∨ 40 * s + 40 ≤ p) → qm_rF σ' 53 p = qm_rF σ 53 p)) ∧ ∀ v τ, Ex qm_lay 100 mX9_sheet 96 [some (.ref 55), some (.int (nI s)), some (.int x), some (.int n), some (.int 40)] [] σ' v τ → Ex qm_lay 100 mX9_sheet 70 [some (.ref 55), some (.int (nI s)), some (.int x), some (.int n), some (.int (nI k))] [] σ1 v τ := by
  intro r
  induction r with
  | zero =>
    intro k σ1 hk hs1 hq
    have hk7 : k = 40 := by omega
    subst hk7
    refine ⟨σ1, hs1, hq, fun v τ hE => ?_⟩
    refine ex_iload dX9_sheet_70 rfl rfl ?_
    refine ex_bipush (x := 40) dX9_sheet_72 rfl rfl ?_
    refine ex_icmp_ge (q := 96) (q2 := 77) dX9_sheet_74 rfl rfl (fun _ => ?_) (fun hh => absurd (nI_le (a := 40) (b := 40) (by decide) (by decide)) hh)
    exact hE
  | succ r ih =>
    intro k σ1 hk hs1 hq
    obtain ⟨σ', hs2, hq2, hE0⟩ := ih (k + 1) (qm_wF σ1 53 (40 * s + k) ((0 : Int32))) (by omega) (hs1.wF _ (by omega)) ⟨fun i hi => by
      by_cases e : i = k
      · subst e; exact rF_eq
      · rw [rF_ne (by omega)]; exact hq.1 i (by omega), fun p hp => by rw [rF_ne (by omega)]; exact hq.2 p (by omega)⟩
    refine ⟨σ', hs2, hq2, fun v τ hE => ?_⟩
    refine ex_iload dX9_sheet_70 rfl rfl ?_
    refine ex_bipush (x := 40) dX9_sheet_72 rfl rfl ?_
    refine ex_icmp_ge (q := 96) (q2 := 77) dX9_sheet_74 rfl rfl (fun hh => absurd hh (nI_ge (b := 40) (by omega) (by decide))) (fun _ => ?_)
    refine ex_aload_n dX9_sheet_77 rfl rfl ?_
    refine ex_getR (b := 67) dX9_sheet_78 rfl qp_8_43 rfl rfl ?_
    refine ex_bipush (x := 40) dX9_sheet_81 rfl rfl ?_
    refine ex_iload_n dX9_sheet_83 rfl rfl ?_
    refine ex_imul (z := nI (40 * s)) dX9_sheet_84 rfl (pk_mul 40 s) ?_
    refine ex_iload dX9_sheet_85 rfl rfl ?_
    refine ex_iadd (z := nI ((40 * s) + k)) dX9_sheet_87 rfl (nI_add (40 * s) k) ?_
    refine ex_iconst (x := 0) dX9_sheet_88 rfl rfl ?_
    refine ex_iastore (k := (40 * s) + k) (σ' := qm_wF σ1 53 ((40 * s) + k) 0) dX9_sheet_89 rfl rfl (rfl) (by omega) (by decide) rfl ?_
    refine ex_iinc (y := nI (k + 1)) (ls' := [some (.ref 55), some (.int (nI s)), some (.int x), some (.int n), some (.int (nI (k + 1)))]) dX9_sheet_90 rfl rfl rfl (nI_add k 1) rfl ?_
    refine ex_goto (q := 70) dX9_sheet_93 rfl ?_
    exact hE0 v τ hE

set_option maxHeartbeats 2000000 in
theorem l_filmM {σ : qm_St} {T : tn_T} (hT : tn_ok T) (h : MR σ T) {s : Nat} (hs4 : s < 4) : ∀ (r k : Nat) (σ1 : qm_St), k + r = 40 → sm σ σ1 36 36 53 54 → ((∀ i, i < k → qm_rF σ1 53 (40 * s + i) = (if i < tn_L T then tn_cv T i else 0)) ∧ (∀ p, (p < 40 * s ∨ 40 * s + k ≤ p) → qm_rF σ1 53 p = qm_rF σ 53 p)) → ∃ σ', sm σ σ' 36 36 53 54 ∧ ((∀ i, i < 40 → qm_rF σ' 53 (40 * s + i) = (if i < tn_L T then tn_cv T i else 0)) ∧ (∀ p, (p < 40 * s ∨ 40 * s + 40 ≤ p) → qm_rF σ' 53 p = qm_rF σ 53 p)) ∧ ∀ v τ, Ex qm_lay 100 mX9_film 72 [some (.ref 55), some (.int (nI s)), some (.int 40)] [] σ' v τ → Ex qm_lay 100 mX9_film 31 [some (.ref 55), some (.int (nI s)), some (.int (nI k))] [] σ1 v τ := by
  have hL := hT.1
  intro r
  induction r with
  | zero =>
    intro k σ1 hk hs1 hq
    have hk7 : k = 40 := by omega
    subst hk7
    refine ⟨σ1, hs1, hq, fun v τ hE => ?_⟩
    refine ex_iload_n dX9_film_31 rfl rfl ?_
    refine ex_bipush (x := 40) dX9_film_32 rfl rfl ?_
    refine ex_icmp_ge (q := 72) (q2 := 37) dX9_film_34 rfl rfl (fun _ => ?_) (fun hh => absurd (nI_le (a := 40) (b := 40) (by decide) (by decide)) hh)
    exact hE
  | succ r ih =>
    intro k σ1 hk hs1 hq
    obtain ⟨σ', hs2, hq2, hE0⟩ := ih (k + 1) (qm_wF σ1 53 (40 * s + k) ((if k < tn_L T then tn_cv T k else 0))) (by omega) (hs1.wF _ (by omega)) ⟨fun i hi => by
      by_cases e : i = k
      · subst e; exact rF_eq
      · rw [rF_ne (by omega)]; exact hq.1 i (by omega), fun p hp => by rw [rF_ne (by omega)]; exact hq.2 p (by omega)⟩
    refine ⟨σ', hs2, hq2, fun v τ hE => ?_⟩
    by_cases hkL : k < tn_L T
    · refine ex_iload_n dX9_film_31 rfl rfl ?_
      refine ex_bipush (x := 40) dX9_film_32 rfl rfl ?_
      refine ex_icmp_ge (q := 72) (q2 := 37) dX9_film_34 rfl rfl (fun hh => absurd hh (nI_ge (b := 40) (by omega) (by decide))) (fun _ => ?_)
      refine ex_aload_n dX9_film_37 rfl rfl ?_
      refine ex_getR (b := 67) dX9_film_38 rfl qp_8_43 rfl rfl ?_
      refine ex_bipush (x := 40) dX9_film_41 rfl rfl ?_
      refine ex_iload_n dX9_film_43 rfl rfl ?_
      refine ex_imul (z := nI (40 * s)) dX9_film_44 rfl (pk_mul 40 s) ?_
      refine ex_iload_n dX9_film_45 rfl rfl ?_
      refine ex_iadd (z := nI ((40 * s) + k)) dX9_film_46 rfl (nI_add (40 * s) k) ?_
      refine ex_iload_n dX9_film_47 rfl rfl ?_
      refine ex_aload_n dX9_film_48 rfl rfl ?_
      refine ex_getI (s := 27) (x := nI (tn_L T)) dX9_film_49 rfl qp_8_78 rfl rfl ((by rw [hs1.1 _ (by omega)]; exact h.1.1)) ?_
      refine ex_icmp_ge (q := 64) (q2 := 55) dX9_film_52 rfl rfl (fun hh => absurd hh (nI_ge (by omega) (by omega))) (fun _ => ?_)
      refine ex_aload_n dX9_film_55 rfl rfl ?_
      refine ex_getR (b := 59) dX9_film_56 rfl qp_8_19 rfl rfl ?_
      refine ex_iload_n dX9_film_59 rfl rfl ?_
      refine ex_iaload (k := k) (x := if k < tn_L T then tn_cv T k else 0) dX9_film_60 rfl rfl (rfl) (by omega) (by decide) (by rw [if_pos hkL, hs1.2 _ (by omega)]; exact MR.cc h hkL) ?_
      refine ex_goto (q := 65) dX9_film_61 rfl ?_
      refine ex_iastore (k := (40 * s) + k) (σ' := qm_wF σ1 53 ((40 * s) + k) (if k < tn_L T then tn_cv T k else 0)) dX9_film_65 rfl rfl (rfl) (by omega) (by decide) rfl ?_
      refine ex_iinc (y := nI (k + 1)) (ls' := [some (.ref 55), some (.int (nI s)), some (.int (nI (k + 1)))]) dX9_film_66 rfl rfl rfl (nI_add k 1) rfl ?_
      refine ex_goto (q := 31) dX9_film_69 rfl ?_
      exact hE0 v τ hE
    · refine ex_iload_n dX9_film_31 rfl rfl ?_
      refine ex_bipush (x := 40) dX9_film_32 rfl rfl ?_
      refine ex_icmp_ge (q := 72) (q2 := 37) dX9_film_34 rfl rfl (fun hh => absurd hh (nI_ge (b := 40) (by omega) (by decide))) (fun _ => ?_)
      refine ex_aload_n dX9_film_37 rfl rfl ?_
      refine ex_getR (b := 67) dX9_film_38 rfl qp_8_43 rfl rfl ?_
      refine ex_bipush (x := 40) dX9_film_41 rfl rfl ?_
      refine ex_iload_n dX9_film_43 rfl rfl ?_
      refine ex_imul (z := nI (40 * s)) dX9_film_44 rfl (pk_mul 40 s) ?_
      refine ex_iload_n dX9_film_45 rfl rfl ?_
      refine ex_iadd (z := nI ((40 * s) + k)) dX9_film_46 rfl (nI_add (40 * s) k) ?_
      refine ex_iload_n dX9_film_47 rfl rfl ?_
      refine ex_aload_n dX9_film_48 rfl rfl ?_
      refine ex_getI (s := 27) (x := nI (tn_L T)) dX9_film_49 rfl qp_8_78 rfl rfl ((by rw [hs1.1 _ (by omega)]; exact h.1.1)) ?_
      refine ex_icmp_ge (q := 64) (q2 := 55) dX9_film_52 rfl rfl (fun _ => ?_) (fun hh => absurd (nI_le (by omega) (by omega)) hh)
      refine ex_iconst (x := 0) dX9_film_64 rfl rfl ?_
      rw [show (0 : Int32) = (if k < tn_L T then tn_cv T k else 0) from (if_neg hkL).symm]
      refine ex_iastore (k := (40 * s) + k) (σ' := qm_wF σ1 53 ((40 * s) + k) (if k < tn_L T then tn_cv T k else 0)) dX9_film_65 rfl rfl (rfl) (by omega) (by decide) rfl ?_
      refine ex_iinc (y := nI (k + 1)) (ls' := [some (.ref 55), some (.int (nI s)), some (.int (nI (k + 1)))]) dX9_film_66 rfl rfl rfl (nI_add k 1) rfl ?_
      refine ex_goto (q := 31) dX9_film_69 rfl ?_
      exact hE0 v τ hE

set_option maxHeartbeats 2000000 in
theorem j_sheet {T : tn_T} {X : gx_T} {P : gt_T} {Im : gi_T} {S : gs_T} (hG : gg_ok (T, X, P, Im, S)) (s x n : Int32) : J mX8_sheet mX9_sheet [.int s, .int x, .int n] (T, X, P, Im, S) := by
  have hT : tn_ok T := hG.1
  have hX : gx_ok X := hG.2.1
  have hP : gt_ok P := hG.2.2.1
  have hI : gi_ok T (gx_n X) Im := hG.2.2.2.1
  have hS : gs_ok S := hG.2.2.2.2.1
  have hw : tn_w T < gx_n X := hG.2.2.2.2.2
  have hL := hT.1
  have hw6 := hT.2.1
  have hu := tn_u_lt hT
  have hX6 := hX.2.1
  have hP6 := hP.1
  by_cases c1 : tn_in s 0 3 = true
  · obtain ⟨s, hs, rfl⟩ := tn_in_of (n := 3) (by decide) c1
    have hs4 : s < 4 := by omega
    by_cases c2 : x = -1
    · subst c2
      refine J.u (.int 1) (T, X, P, Im, gs_mf S s (-1) 0 (fun _ => 0)) ⟨hT, hX, hP, hI, gs_mf_ok hS _ (Or.inl rfl) (by decide), hw⟩ (fun σ hC => ?_) (fun σ hM => ?_)
      · have h : TR σ 9 18 T := hC.1
        obtain ⟨σ', hO, hR, hs2⟩ := c_makeRow hS hC.2.2.2.2 hs4 (-1) 0
        refine ⟨σ', ?_, CG.sheets hX hC hR hs2, hs2.wid (by omega) (by omega)⟩
        refine Ok.of (ls := [some (.ref 54), some (.int (nI s)), some (.int (-1)), some (.int n)]) (Nat.le_of_ble_eq_true rfl) rfl ?_
        refine ex_iload_n dX8_sheet_0 rfl rfl ?_
        refine ex_callS (rest := []) dX8_sheet_1 rfl qp_7_201 rfl rfl rfl (Nat.le_of_ble_eq_true rfl) (c_isSheet _ _) (Nat.le_of_ble_eq_true rfl) ?_
        show Ex qm_lay _ mX8_sheet 4 [some (.ref 54), some (.int (nI s)), some (.int (-1)), some (.int n)] [.int (b2i (tn_in (nI s) 0 3))] σ _ _
        refine ex_if_eq (q := 17) (q2 := 7) dX8_sheet_4 rfl rfl (fun hh => absurd hh (b2i_n0.mpr (c1))) (fun _ => ?_)
        refine ex_iload_n dX8_sheet_7 rfl rfl ?_
        refine ex_iconst (x := (-1)) dX8_sheet_8 rfl rfl ?_
        refine ex_icmp_lt (q := 17) (q2 := 12) dX8_sheet_9 rfl rfl (fun hh => absurd hh (by decide)) (fun _ => ?_)
        refine ex_iload_n dX8_sheet_12 rfl rfl ?_
        refine ex_iconst (x := 2) dX8_sheet_13 rfl rfl ?_
        refine ex_icmp_le (q := 20) (q2 := 17) dX8_sheet_14 rfl rfl (fun _ => ?_) (fun hh => absurd (by decide) hh)
        refine ex_iload_n dX8_sheet_20 rfl rfl ?_
        refine ex_iconst (x := (-1)) dX8_sheet_21 rfl rfl ?_
        refine ex_icmp_ne (q := 37) (q2 := 25) dX8_sheet_22 rfl rfl (fun hh => absurd hh (by decide)) (fun _ => ?_)
        refine ex_aload_n dX8_sheet_25 rfl rfl ?_
        refine ex_getR (b := 40) dX8_sheet_26 rfl qp_7_36 rfl rfl ?_
        refine ex_iload_n dX8_sheet_29 rfl rfl ?_
        refine ex_iload_n dX8_sheet_30 rfl rfl ?_
        refine ex_iconst (x := 0) dX8_sheet_31 rfl rfl ?_
        refine ex_callV (a := 40) (rest := []) dX8_sheet_32 rfl qp_7_256 rfl rfl rfl rfl rfl (Nat.le_of_ble_eq_true rfl) (hO) (Nat.le_of_ble_eq_true rfl) ?_
        show Ex qm_lay _ mX8_sheet 35 [some (.ref 54), some (.int (nI s)), some (.int (-1)), some (.int n)] [] σ' _ _
        refine ex_iconst (x := 1) dX8_sheet_35 rfl rfl ?_
        exact ex_iret dX8_sheet_36 rfl rfl rfl
      · have h : MR σ T := hM.1
        have hp : 40 * s + 40 ≤ 160 := by omega
        obtain ⟨σ', hs2, hq, hE⟩ := l_sheetM (σ := qm_wF (qm_wF σ 51 s (-1)) 52 s (nI 0)) hs4 (-1) n 40 0 _ rfl (sm.rf _ _ _ _ _) ⟨fun i hi => absurd hi (Nat.not_lt_zero i), fun p hp => rfl⟩
        have hsm : sm σ σ' 36 36 51 54 := (((sm.rf σ 36 36 51 54).wF _ (by omega)).wF _ (by omega)).tr (hs2.wid (by omega) (by omega))
        refine ⟨σ', ?_, MG.sheets hM (SMmf (n := 0) (f := fun _ => 0) hM.2.2.2.2.1 hs2 hq.1 (fun p hp => by rw [hq.2 p hp, rF_ne (by omega), rF_ne (by omega)])) hsm, hsm.wid (by omega) (by omega)⟩
        refine Ok.of (ls := [some (.ref 55), some (.int (nI s)), some (.int (-1)), some (.int n), none]) (Nat.le_of_ble_eq_true rfl) rfl ?_
        refine ex_iload_n dX9_sheet_0 rfl rfl ?_
        refine ex_iconst (x := 0) dX9_sheet_1 rfl rfl ?_
        refine ex_iconst (x := 3) dX9_sheet_2 rfl rfl ?_
        refine ex_callS (rest := []) dX9_sheet_3 rfl qp_8_81 rfl rfl rfl (Nat.le_of_ble_eq_true rfl) (k_in _ _ _ _) (Nat.le_of_ble_eq_true rfl) ?_
        show Ex qm_lay _ mX9_sheet 6 [some (.ref 55), some (.int (nI s)), some (.int (-1)), some (.int n), none] [.int (b2i (tn_in (nI s) 0 3))] σ _ _
        refine ex_if_eq (q := 29) (q2 := 9) dX9_sheet_6 rfl rfl (fun hh => absurd hh (b2i_n0.mpr (c1))) (fun _ => ?_)
        refine ex_iload_n dX9_sheet_9 rfl rfl ?_
        refine ex_iconst (x := (-1)) dX9_sheet_10 rfl rfl ?_
        refine ex_iconst (x := 2) dX9_sheet_11 rfl rfl ?_
        refine ex_callS (rest := []) dX9_sheet_12 rfl qp_8_81 rfl rfl rfl (Nat.le_of_ble_eq_true rfl) (k_in _ _ _ _) (Nat.le_of_ble_eq_true rfl) ?_
        show Ex qm_lay _ mX9_sheet 15 [some (.ref 55), some (.int (nI s)), some (.int (-1)), some (.int n), none] [.int (b2i (tn_in (-1) (-1) 2))] σ _ _
        refine ex_if_eq (q := 29) (q2 := 18) dX9_sheet_15 rfl rfl (fun hh => absurd hh (b2i_n0.mpr (rfl))) (fun _ => ?_)
        refine ex_iload_n dX9_sheet_18 rfl rfl ?_
        refine ex_iconst (x := (-1)) dX9_sheet_19 rfl rfl ?_
        refine ex_icmp_eq (q := 32) (q2 := 23) dX9_sheet_20 rfl rfl (fun _ => ?_) (fun hh => absurd (by decide) hh)
        refine ex_iload_n dX9_sheet_32 rfl rfl ?_
        refine ex_iconst (x := (-1)) dX9_sheet_33 rfl rfl ?_
        refine ex_icmp_eq (q := 44) (q2 := 37) dX9_sheet_34 rfl rfl (fun _ => ?_) (fun hh => absurd (by decide) hh)
        refine ex_aload_n dX9_sheet_44 rfl rfl ?_
        refine ex_getR (b := 65) dX9_sheet_45 rfl qp_8_37 rfl rfl ?_
        refine ex_iload_n dX9_sheet_48 rfl rfl ?_
        refine ex_iload_n dX9_sheet_49 rfl rfl ?_
        refine ex_iastore (k := s) (σ' := qm_wF σ 51 s (-1)) dX9_sheet_50 rfl rfl (rfl) (by omega) (by decide) rfl ?_
        refine ex_aload_n dX9_sheet_51 rfl rfl ?_
        refine ex_getR (b := 66) dX9_sheet_52 rfl qp_8_40 rfl rfl ?_
        refine ex_iload_n dX9_sheet_55 rfl rfl ?_
        refine ex_iload_n dX9_sheet_56 rfl rfl ?_
        refine ex_iconst (x := (-1)) dX9_sheet_57 rfl rfl ?_
        refine ex_icmp_ne (q := 65) (q2 := 61) dX9_sheet_58 rfl rfl (fun hh => absurd hh (by decide)) (fun _ => ?_)
        refine ex_iconst (x := 0) dX9_sheet_61 rfl rfl ?_
        refine ex_goto (q := 66) dX9_sheet_62 rfl ?_
        refine ex_iastore (k := s) (σ' := qm_wF (qm_wF σ 51 s (-1)) 52 s 0) dX9_sheet_66 rfl rfl (rfl) (by omega) (by decide) rfl ?_
        refine ex_iconst (x := 0) dX9_sheet_67 rfl rfl ?_
        refine ex_istore (ls' := [some (.ref 55), some (.int (nI s)), some (.int (-1)), some (.int n), some (.int 0)]) dX9_sheet_68 rfl (Nat.le_of_ble_eq_true rfl) rfl rfl ?_
        refine hE _ _ ?_
        refine ex_iconst (x := 1) dX9_sheet_96 rfl rfl ?_
        exact ex_iret dX9_sheet_97 rfl rfl rfl
    · rcases sw_in (n := 2) (by decide) x with ⟨q, hq2, rfl⟩ | ho
      · have hq3 : nI q = -1 ∨ nI q = 0 ∨ nI q = 1 ∨ nI q = 2 := by
          have : q = 0 ∨ q = 1 ∨ q = 2 := by omega
          rcases this with rfl | rfl | rfl
          · exact Or.inr (Or.inl rfl)
          · exact Or.inr (Or.inr (Or.inl rfl))
          · exact Or.inr (Or.inr (Or.inr rfl))
        have hin : tn_in (nI q) (-1) 2 = true := decide_eq_true ⟨Int32.le_trans (by decide) (nI_pos' (n := q) (by omega)), nI_le (b := 2) hq2 (by decide)⟩
        have hn2 : ¬ nI q < -1 := fun z => absurd (Int32.lt_trans z (show (-1 : Int32) < 0 by decide)) (nI_pos (by omega))
        have hn3 : nI q ≤ 2 := nI_le (b := 2) hq2 (by decide)
        by_cases c3 : n < 0
        · refine J.q hG (.int (-14)) (fun σ hC => ?_) (fun σ hM => ?_)
          · have h : TR σ 9 18 T := hC.1
            refine Ok.of (ls := [some (.ref 54), some (.int (nI s)), some (.int (nI q)), some (.int n)]) (Nat.le_of_ble_eq_true rfl) rfl ?_
            refine ex_iload_n dX8_sheet_0 rfl rfl ?_
            refine ex_callS (rest := []) dX8_sheet_1 rfl qp_7_201 rfl rfl rfl (Nat.le_of_ble_eq_true rfl) (c_isSheet _ _) (Nat.le_of_ble_eq_true rfl) ?_
            show Ex qm_lay _ mX8_sheet 4 [some (.ref 54), some (.int (nI s)), some (.int (nI q)), some (.int n)] [.int (b2i (tn_in (nI s) 0 3))] σ _ _
            refine ex_if_eq (q := 17) (q2 := 7) dX8_sheet_4 rfl rfl (fun hh => absurd hh (b2i_n0.mpr (c1))) (fun _ => ?_)
            refine ex_iload_n dX8_sheet_7 rfl rfl ?_
            refine ex_iconst (x := (-1)) dX8_sheet_8 rfl rfl ?_
            refine ex_icmp_lt (q := 17) (q2 := 12) dX8_sheet_9 rfl rfl (fun hh => absurd hh (hn2)) (fun _ => ?_)
            refine ex_iload_n dX8_sheet_12 rfl rfl ?_
            refine ex_iconst (x := 2) dX8_sheet_13 rfl rfl ?_
            refine ex_icmp_le (q := 20) (q2 := 17) dX8_sheet_14 rfl rfl (fun _ => ?_) (fun hh => absurd (hn3) hh)
            refine ex_iload_n dX8_sheet_20 rfl rfl ?_
            refine ex_iconst (x := (-1)) dX8_sheet_21 rfl rfl ?_
            refine ex_icmp_ne (q := 37) (q2 := 25) dX8_sheet_22 rfl rfl (fun _ => ?_) (fun hh => absurd (c2) hh)
            refine ex_iload_n dX8_sheet_37 rfl rfl ?_
            refine ex_bipush (x := 40) dX8_sheet_38 rfl rfl ?_
            refine ex_icmp_le (q := 46) (q2 := 43) dX8_sheet_40 rfl rfl (fun _ => ?_) (fun hh => absurd (Int32.le_of_lt (Int32.lt_trans c3 (by decide))) hh)
            refine ex_iload_n dX8_sheet_46 rfl rfl ?_
            refine ex_if_ge (q := 53) (q2 := 50) dX8_sheet_47 rfl rfl (fun hh => absurd hh (fun z => absurd c3 (Int32.not_lt.mpr z))) (fun _ => ?_)
            refine ex_bipush (x := (-14)) dX8_sheet_50 rfl rfl ?_
            exact ex_iret dX8_sheet_52 rfl rfl rfl
          · have h : MR σ T := hM.1
            refine Ok.of (ls := [some (.ref 55), some (.int (nI s)), some (.int (nI q)), some (.int n), none]) (Nat.le_of_ble_eq_true rfl) rfl ?_
            refine ex_iload_n dX9_sheet_0 rfl rfl ?_
            refine ex_iconst (x := 0) dX9_sheet_1 rfl rfl ?_
            refine ex_iconst (x := 3) dX9_sheet_2 rfl rfl ?_
            refine ex_callS (rest := []) dX9_sheet_3 rfl qp_8_81 rfl rfl rfl (Nat.le_of_ble_eq_true rfl) (k_in _ _ _ _) (Nat.le_of_ble_eq_true rfl) ?_
            show Ex qm_lay _ mX9_sheet 6 [some (.ref 55), some (.int (nI s)), some (.int (nI q)), some (.int n), none] [.int (b2i (tn_in (nI s) 0 3))] σ _ _
            refine ex_if_eq (q := 29) (q2 := 9) dX9_sheet_6 rfl rfl (fun hh => absurd hh (b2i_n0.mpr (c1))) (fun _ => ?_)
            refine ex_iload_n dX9_sheet_9 rfl rfl ?_
            refine ex_iconst (x := (-1)) dX9_sheet_10 rfl rfl ?_
            refine ex_iconst (x := 2) dX9_sheet_11 rfl rfl ?_
            refine ex_callS (rest := []) dX9_sheet_12 rfl qp_8_81 rfl rfl rfl (Nat.le_of_ble_eq_true rfl) (k_in _ _ _ _) (Nat.le_of_ble_eq_true rfl) ?_
            show Ex qm_lay _ mX9_sheet 15 [some (.ref 55), some (.int (nI s)), some (.int (nI q)), some (.int n), none] [.int (b2i (tn_in (nI q) (-1) 2))] σ _ _
            refine ex_if_eq (q := 29) (q2 := 18) dX9_sheet_15 rfl rfl (fun hh => absurd hh (b2i_n0.mpr (hin))) (fun _ => ?_)
            refine ex_iload_n dX9_sheet_18 rfl rfl ?_
            refine ex_iconst (x := (-1)) dX9_sheet_19 rfl rfl ?_
            refine ex_icmp_eq (q := 32) (q2 := 23) dX9_sheet_20 rfl rfl (fun hh => absurd hh (c2)) (fun _ => ?_)
            refine ex_iload_n dX9_sheet_23 rfl rfl ?_
            refine ex_bipush (x := 40) dX9_sheet_24 rfl rfl ?_
            refine ex_icmp_le (q := 32) (q2 := 29) dX9_sheet_26 rfl rfl (fun _ => ?_) (fun hh => absurd (Int32.le_of_lt (Int32.lt_trans c3 (by decide))) hh)
            refine ex_iload_n dX9_sheet_32 rfl rfl ?_
            refine ex_iconst (x := (-1)) dX9_sheet_33 rfl rfl ?_
            refine ex_icmp_eq (q := 44) (q2 := 37) dX9_sheet_34 rfl rfl (fun hh => absurd hh (c2)) (fun _ => ?_)
            refine ex_iload_n dX9_sheet_37 rfl rfl ?_
            refine ex_if_ge (q := 44) (q2 := 41) dX9_sheet_38 rfl rfl (fun hh => absurd hh (fun z => absurd c3 (Int32.not_lt.mpr z))) (fun _ => ?_)
            refine ex_bipush (x := (-14)) dX9_sheet_41 rfl rfl ?_
            exact ex_iret dX9_sheet_43 rfl rfl rfl
        · obtain ⟨m, hm, rfl⟩ := nI_of c3
          by_cases c4 : m ≤ 40
          · refine J.u (.int 1) (T, X, P, Im, gs_mf S s (nI q) m (fun _ => 0)) ⟨hT, hX, hP, hI, gs_mf_ok hS _ hq3 c4, hw⟩ (fun σ hC => ?_) (fun σ hM => ?_)
            · have h : TR σ 9 18 T := hC.1
              obtain ⟨σ', hO, hR, hs2⟩ := c_makeRow hS hC.2.2.2.2 hs4 (nI q) m
              refine ⟨σ', ?_, CG.sheets hX hC hR hs2, hs2.wid (by omega) (by omega)⟩
              refine Ok.of (ls := [some (.ref 54), some (.int (nI s)), some (.int (nI q)), some (.int (nI m))]) (Nat.le_of_ble_eq_true rfl) rfl ?_
              refine ex_iload_n dX8_sheet_0 rfl rfl ?_
              refine ex_callS (rest := []) dX8_sheet_1 rfl qp_7_201 rfl rfl rfl (Nat.le_of_ble_eq_true rfl) (c_isSheet _ _) (Nat.le_of_ble_eq_true rfl) ?_
              show Ex qm_lay _ mX8_sheet 4 [some (.ref 54), some (.int (nI s)), some (.int (nI q)), some (.int (nI m))] [.int (b2i (tn_in (nI s) 0 3))] σ _ _
              refine ex_if_eq (q := 17) (q2 := 7) dX8_sheet_4 rfl rfl (fun hh => absurd hh (b2i_n0.mpr (c1))) (fun _ => ?_)
              refine ex_iload_n dX8_sheet_7 rfl rfl ?_
              refine ex_iconst (x := (-1)) dX8_sheet_8 rfl rfl ?_
              refine ex_icmp_lt (q := 17) (q2 := 12) dX8_sheet_9 rfl rfl (fun hh => absurd hh (hn2)) (fun _ => ?_)
              refine ex_iload_n dX8_sheet_12 rfl rfl ?_
              refine ex_iconst (x := 2) dX8_sheet_13 rfl rfl ?_
              refine ex_icmp_le (q := 20) (q2 := 17) dX8_sheet_14 rfl rfl (fun _ => ?_) (fun hh => absurd (hn3) hh)
              refine ex_iload_n dX8_sheet_20 rfl rfl ?_
              refine ex_iconst (x := (-1)) dX8_sheet_21 rfl rfl ?_
              refine ex_icmp_ne (q := 37) (q2 := 25) dX8_sheet_22 rfl rfl (fun _ => ?_) (fun hh => absurd (c2) hh)
              refine ex_iload_n dX8_sheet_37 rfl rfl ?_
              refine ex_bipush (x := 40) dX8_sheet_38 rfl rfl ?_
              refine ex_icmp_le (q := 46) (q2 := 43) dX8_sheet_40 rfl rfl (fun _ => ?_) (fun hh => absurd (nI_le (a := m) (b := 40) (by omega) (by omega)) hh)
              refine ex_iload_n dX8_sheet_46 rfl rfl ?_
              refine ex_if_ge (q := 53) (q2 := 50) dX8_sheet_47 rfl rfl (fun _ => ?_) (fun hh => absurd (nI_pos' (by omega)) hh)
              refine ex_aload_n dX8_sheet_53 rfl rfl ?_
              refine ex_getR (b := 40) dX8_sheet_54 rfl qp_7_36 rfl rfl ?_
              refine ex_iload_n dX8_sheet_57 rfl rfl ?_
              refine ex_iload_n dX8_sheet_58 rfl rfl ?_
              refine ex_iload_n dX8_sheet_59 rfl rfl ?_
              refine ex_callV (a := 40) (rest := []) dX8_sheet_60 rfl qp_7_256 rfl rfl rfl rfl rfl (Nat.le_of_ble_eq_true rfl) (hO) (Nat.le_of_ble_eq_true rfl) ?_
              show Ex qm_lay _ mX8_sheet 63 [some (.ref 54), some (.int (nI s)), some (.int (nI q)), some (.int (nI m))] [] σ' _ _
              refine ex_iconst (x := 1) dX8_sheet_63 rfl rfl ?_
              exact ex_iret dX8_sheet_64 rfl rfl rfl
            · have h : MR σ T := hM.1
              have hp : 40 * s + 40 ≤ 160 := by omega
              obtain ⟨σ', hs2, hq, hE⟩ := l_sheetM (σ := qm_wF (qm_wF σ 51 s (nI q)) 52 s (nI m)) hs4 (nI q) (nI m) 40 0 _ rfl (sm.rf _ _ _ _ _) ⟨fun i hi => absurd hi (Nat.not_lt_zero i), fun p hp => rfl⟩
              have hsm : sm σ σ' 36 36 51 54 := (((sm.rf σ 36 36 51 54).wF _ (by omega)).wF _ (by omega)).tr (hs2.wid (by omega) (by omega))
              refine ⟨σ', ?_, MG.sheets hM (SMmf (n := m) (f := fun _ => 0) hM.2.2.2.2.1 hs2 hq.1 (fun p hp => by rw [hq.2 p hp, rF_ne (by omega), rF_ne (by omega)])) hsm, hsm.wid (by omega) (by omega)⟩
              refine Ok.of (ls := [some (.ref 55), some (.int (nI s)), some (.int (nI q)), some (.int (nI m)), none]) (Nat.le_of_ble_eq_true rfl) rfl ?_
              refine ex_iload_n dX9_sheet_0 rfl rfl ?_
              refine ex_iconst (x := 0) dX9_sheet_1 rfl rfl ?_
              refine ex_iconst (x := 3) dX9_sheet_2 rfl rfl ?_
              refine ex_callS (rest := []) dX9_sheet_3 rfl qp_8_81 rfl rfl rfl (Nat.le_of_ble_eq_true rfl) (k_in _ _ _ _) (Nat.le_of_ble_eq_true rfl) ?_
              show Ex qm_lay _ mX9_sheet 6 [some (.ref 55), some (.int (nI s)), some (.int (nI q)), some (.int (nI m)), none] [.int (b2i (tn_in (nI s) 0 3))] σ _ _
              refine ex_if_eq (q := 29) (q2 := 9) dX9_sheet_6 rfl rfl (fun hh => absurd hh (b2i_n0.mpr (c1))) (fun _ => ?_)
              refine ex_iload_n dX9_sheet_9 rfl rfl ?_
              refine ex_iconst (x := (-1)) dX9_sheet_10 rfl rfl ?_
              refine ex_iconst (x := 2) dX9_sheet_11 rfl rfl ?_
              refine ex_callS (rest := []) dX9_sheet_12 rfl qp_8_81 rfl rfl rfl (Nat.le_of_ble_eq_true rfl) (k_in _ _ _ _) (Nat.le_of_ble_eq_true rfl) ?_
              show Ex qm_lay _ mX9_sheet 15 [some (.ref 55), some (.int (nI s)), some (.int (nI q)), some (.int (nI m)), none] [.int (b2i (tn_in (nI q) (-1) 2))] σ _ _
              refine ex_if_eq (q := 29) (q2 := 18) dX9_sheet_15 rfl rfl (fun hh => absurd hh (b2i_n0.mpr (hin))) (fun _ => ?_)
              refine ex_iload_n dX9_sheet_18 rfl rfl ?_
              refine ex_iconst (x := (-1)) dX9_sheet_19 rfl rfl ?_
              refine ex_icmp_eq (q := 32) (q2 := 23) dX9_sheet_20 rfl rfl (fun hh => absurd hh (c2)) (fun _ => ?_)
              refine ex_iload_n dX9_sheet_23 rfl rfl ?_
              refine ex_bipush (x := 40) dX9_sheet_24 rfl rfl ?_
              refine ex_icmp_le (q := 32) (q2 := 29) dX9_sheet_26 rfl rfl (fun _ => ?_) (fun hh => absurd (nI_le (a := m) (b := 40) (by omega) (by omega)) hh)
              refine ex_iload_n dX9_sheet_32 rfl rfl ?_
              refine ex_iconst (x := (-1)) dX9_sheet_33 rfl rfl ?_
              refine ex_icmp_eq (q := 44) (q2 := 37) dX9_sheet_34 rfl rfl (fun hh => absurd hh (c2)) (fun _ => ?_)
              refine ex_iload_n dX9_sheet_37 rfl rfl ?_
              refine ex_if_ge (q := 44) (q2 := 41) dX9_sheet_38 rfl rfl (fun _ => ?_) (fun hh => absurd (nI_pos' (by omega)) hh)
              refine ex_aload_n dX9_sheet_44 rfl rfl ?_
              refine ex_getR (b := 65) dX9_sheet_45 rfl qp_8_37 rfl rfl ?_
              refine ex_iload_n dX9_sheet_48 rfl rfl ?_
              refine ex_iload_n dX9_sheet_49 rfl rfl ?_
              refine ex_iastore (k := s) (σ' := qm_wF σ 51 s (nI q)) dX9_sheet_50 rfl rfl (rfl) (by omega) (by decide) rfl ?_
              refine ex_aload_n dX9_sheet_51 rfl rfl ?_
              refine ex_getR (b := 66) dX9_sheet_52 rfl qp_8_40 rfl rfl ?_
              refine ex_iload_n dX9_sheet_55 rfl rfl ?_
              refine ex_iload_n dX9_sheet_56 rfl rfl ?_
              refine ex_iconst (x := (-1)) dX9_sheet_57 rfl rfl ?_
              refine ex_icmp_ne (q := 65) (q2 := 61) dX9_sheet_58 rfl rfl (fun _ => ?_) (fun hh => absurd (c2) hh)
              refine ex_iload_n dX9_sheet_65 rfl rfl ?_
              refine ex_iastore (k := s) (σ' := qm_wF (qm_wF σ 51 s (nI q)) 52 s (nI m)) dX9_sheet_66 rfl rfl (rfl) (by omega) (by decide) rfl ?_
              refine ex_iconst (x := 0) dX9_sheet_67 rfl rfl ?_
              refine ex_istore (ls' := [some (.ref 55), some (.int (nI s)), some (.int (nI q)), some (.int (nI m)), some (.int 0)]) dX9_sheet_68 rfl (Nat.le_of_ble_eq_true rfl) rfl rfl ?_
              refine hE _ _ ?_
              refine ex_iconst (x := 1) dX9_sheet_96 rfl rfl ?_
              exact ex_iret dX9_sheet_97 rfl rfl rfl
          · refine J.q hG (.int (-2)) (fun σ hC => ?_) (fun σ hM => ?_)
            · have h : TR σ 9 18 T := hC.1
              refine Ok.of (ls := [some (.ref 54), some (.int (nI s)), some (.int (nI q)), some (.int (nI m))]) (Nat.le_of_ble_eq_true rfl) rfl ?_
              refine ex_iload_n dX8_sheet_0 rfl rfl ?_
              refine ex_callS (rest := []) dX8_sheet_1 rfl qp_7_201 rfl rfl rfl (Nat.le_of_ble_eq_true rfl) (c_isSheet _ _) (Nat.le_of_ble_eq_true rfl) ?_
              show Ex qm_lay _ mX8_sheet 4 [some (.ref 54), some (.int (nI s)), some (.int (nI q)), some (.int (nI m))] [.int (b2i (tn_in (nI s) 0 3))] σ _ _
              refine ex_if_eq (q := 17) (q2 := 7) dX8_sheet_4 rfl rfl (fun hh => absurd hh (b2i_n0.mpr (c1))) (fun _ => ?_)
              refine ex_iload_n dX8_sheet_7 rfl rfl ?_
              refine ex_iconst (x := (-1)) dX8_sheet_8 rfl rfl ?_
              refine ex_icmp_lt (q := 17) (q2 := 12) dX8_sheet_9 rfl rfl (fun hh => absurd hh (hn2)) (fun _ => ?_)
              refine ex_iload_n dX8_sheet_12 rfl rfl ?_
              refine ex_iconst (x := 2) dX8_sheet_13 rfl rfl ?_
              refine ex_icmp_le (q := 20) (q2 := 17) dX8_sheet_14 rfl rfl (fun _ => ?_) (fun hh => absurd (hn3) hh)
              refine ex_iload_n dX8_sheet_20 rfl rfl ?_
              refine ex_iconst (x := (-1)) dX8_sheet_21 rfl rfl ?_
              refine ex_icmp_ne (q := 37) (q2 := 25) dX8_sheet_22 rfl rfl (fun _ => ?_) (fun hh => absurd (c2) hh)
              refine ex_iload_n dX8_sheet_37 rfl rfl ?_
              refine ex_bipush (x := 40) dX8_sheet_38 rfl rfl ?_
              refine ex_icmp_le (q := 46) (q2 := 43) dX8_sheet_40 rfl rfl (fun hh => absurd hh (nI_ge (a := 40) (b := m) (by omega) (by omega))) (fun _ => ?_)
              refine ex_bipush (x := (-2)) dX8_sheet_43 rfl rfl ?_
              exact ex_iret dX8_sheet_45 rfl rfl rfl
            · have h : MR σ T := hM.1
              refine Ok.of (ls := [some (.ref 55), some (.int (nI s)), some (.int (nI q)), some (.int (nI m)), none]) (Nat.le_of_ble_eq_true rfl) rfl ?_
              refine ex_iload_n dX9_sheet_0 rfl rfl ?_
              refine ex_iconst (x := 0) dX9_sheet_1 rfl rfl ?_
              refine ex_iconst (x := 3) dX9_sheet_2 rfl rfl ?_
              refine ex_callS (rest := []) dX9_sheet_3 rfl qp_8_81 rfl rfl rfl (Nat.le_of_ble_eq_true rfl) (k_in _ _ _ _) (Nat.le_of_ble_eq_true rfl) ?_
              show Ex qm_lay _ mX9_sheet 6 [some (.ref 55), some (.int (nI s)), some (.int (nI q)), some (.int (nI m)), none] [.int (b2i (tn_in (nI s) 0 3))] σ _ _
              refine ex_if_eq (q := 29) (q2 := 9) dX9_sheet_6 rfl rfl (fun hh => absurd hh (b2i_n0.mpr (c1))) (fun _ => ?_)
              refine ex_iload_n dX9_sheet_9 rfl rfl ?_
              refine ex_iconst (x := (-1)) dX9_sheet_10 rfl rfl ?_
              refine ex_iconst (x := 2) dX9_sheet_11 rfl rfl ?_
              refine ex_callS (rest := []) dX9_sheet_12 rfl qp_8_81 rfl rfl rfl (Nat.le_of_ble_eq_true rfl) (k_in _ _ _ _) (Nat.le_of_ble_eq_true rfl) ?_
              show Ex qm_lay _ mX9_sheet 15 [some (.ref 55), some (.int (nI s)), some (.int (nI q)), some (.int (nI m)), none] [.int (b2i (tn_in (nI q) (-1) 2))] σ _ _
              refine ex_if_eq (q := 29) (q2 := 18) dX9_sheet_15 rfl rfl (fun hh => absurd hh (b2i_n0.mpr (hin))) (fun _ => ?_)
              refine ex_iload_n dX9_sheet_18 rfl rfl ?_
              refine ex_iconst (x := (-1)) dX9_sheet_19 rfl rfl ?_
              refine ex_icmp_eq (q := 32) (q2 := 23) dX9_sheet_20 rfl rfl (fun hh => absurd hh (c2)) (fun _ => ?_)
              refine ex_iload_n dX9_sheet_23 rfl rfl ?_
              refine ex_bipush (x := 40) dX9_sheet_24 rfl rfl ?_
              refine ex_icmp_le (q := 32) (q2 := 29) dX9_sheet_26 rfl rfl (fun hh => absurd hh (nI_ge (a := 40) (b := m) (by omega) (by omega))) (fun _ => ?_)
              refine ex_bipush (x := (-2)) dX9_sheet_29 rfl rfl ?_
              exact ex_iret dX9_sheet_31 rfl rfl rfl
      · have hno : tn_in x (-1) 2 = false := decide_eq_false (fun z => by
          have e2 : (2 : Int32).toInt = 2 := rfl
          have e1 : (-1 : Int32).toInt = -1 := rfl
          have c2 : x.toInt ≠ -1 := fun e => c2 (Int32.toInt_inj.mp e)
          simp only [Int32.le_iff_toInt_le, e1, e2] at z
          omega)
        refine J.q hG (.int (-2)) (fun σ hC => ?_) (fun σ hM => ?_)
        · have h : TR σ 9 18 T := hC.1
          refine Ok.of (ls := [some (.ref 54), some (.int (nI s)), some (.int x), some (.int n)]) (Nat.le_of_ble_eq_true rfl) rfl ?_
          refine ex_iload_n dX8_sheet_0 rfl rfl ?_
          refine ex_callS (rest := []) dX8_sheet_1 rfl qp_7_201 rfl rfl rfl (Nat.le_of_ble_eq_true rfl) (c_isSheet _ _) (Nat.le_of_ble_eq_true rfl) ?_
          show Ex qm_lay _ mX8_sheet 4 [some (.ref 54), some (.int (nI s)), some (.int x), some (.int n)] [.int (b2i (tn_in (nI s) 0 3))] σ _ _
          refine ex_if_eq (q := 17) (q2 := 7) dX8_sheet_4 rfl rfl (fun hh => absurd hh (b2i_n0.mpr (c1))) (fun _ => ?_)
          refine ex_iload_n dX8_sheet_7 rfl rfl ?_
          refine ex_iconst (x := (-1)) dX8_sheet_8 rfl rfl ?_
          refine ex_icmp_lt (q := 17) (q2 := 12) dX8_sheet_9 rfl rfl (fun h9 => ?_) (fun h9 => ?_)
          · refine ex_bipush (x := (-2)) dX8_sheet_17 rfl rfl ?_
            exact ex_iret dX8_sheet_19 rfl rfl rfl
          · have hgt : ¬ x ≤ 2 := fun z => by
              have e2 : (2 : Int32).toInt = 2 := rfl
              have e1 : (-1 : Int32).toInt = -1 := rfl
              have c2 : x.toInt ≠ -1 := fun e => c2 (Int32.toInt_inj.mp e)
              simp only [Int32.le_iff_toInt_le, Int32.lt_iff_toInt_lt, e1, e2] at z h9
              omega
            refine ex_iload_n dX8_sheet_12 rfl rfl ?_
            refine ex_iconst (x := 2) dX8_sheet_13 rfl rfl ?_
            refine ex_icmp_le (q := 20) (q2 := 17) dX8_sheet_14 rfl rfl (fun hh => absurd hh (hgt)) (fun _ => ?_)
            refine ex_bipush (x := (-2)) dX8_sheet_17 rfl rfl ?_
            exact ex_iret dX8_sheet_19 rfl rfl rfl
        · have h : MR σ T := hM.1
          refine Ok.of (ls := [some (.ref 55), some (.int (nI s)), some (.int x), some (.int n), none]) (Nat.le_of_ble_eq_true rfl) rfl ?_
          refine ex_iload_n dX9_sheet_0 rfl rfl ?_
          refine ex_iconst (x := 0) dX9_sheet_1 rfl rfl ?_
          refine ex_iconst (x := 3) dX9_sheet_2 rfl rfl ?_
          refine ex_callS (rest := []) dX9_sheet_3 rfl qp_8_81 rfl rfl rfl (Nat.le_of_ble_eq_true rfl) (k_in _ _ _ _) (Nat.le_of_ble_eq_true rfl) ?_
          show Ex qm_lay _ mX9_sheet 6 [some (.ref 55), some (.int (nI s)), some (.int x), some (.int n), none] [.int (b2i (tn_in (nI s) 0 3))] σ _ _
          refine ex_if_eq (q := 29) (q2 := 9) dX9_sheet_6 rfl rfl (fun hh => absurd hh (b2i_n0.mpr (c1))) (fun _ => ?_)
          refine ex_iload_n dX9_sheet_9 rfl rfl ?_
          refine ex_iconst (x := (-1)) dX9_sheet_10 rfl rfl ?_
          refine ex_iconst (x := 2) dX9_sheet_11 rfl rfl ?_
          refine ex_callS (rest := []) dX9_sheet_12 rfl qp_8_81 rfl rfl rfl (Nat.le_of_ble_eq_true rfl) (k_in _ _ _ _) (Nat.le_of_ble_eq_true rfl) ?_
          show Ex qm_lay _ mX9_sheet 15 [some (.ref 55), some (.int (nI s)), some (.int x), some (.int n), none] [.int (b2i (tn_in x (-1) 2))] σ _ _
          refine ex_if_eq (q := 29) (q2 := 18) dX9_sheet_15 rfl rfl (fun _ => ?_) (fun hh => absurd (b2i_0.mpr (hno)) hh)
          refine ex_bipush (x := (-2)) dX9_sheet_29 rfl rfl ?_
          exact ex_iret dX9_sheet_31 rfl rfl rfl
  · refine J.q hG (.int (-2)) (fun σ hC => ?_) (fun σ hM => ?_)
    · have h : TR σ 9 18 T := hC.1
      refine Ok.of (ls := [some (.ref 54), some (.int s), some (.int x), some (.int n)]) (Nat.le_of_ble_eq_true rfl) rfl ?_
      refine ex_iload_n dX8_sheet_0 rfl rfl ?_
      refine ex_callS (rest := []) dX8_sheet_1 rfl qp_7_201 rfl rfl rfl (Nat.le_of_ble_eq_true rfl) (c_isSheet _ _) (Nat.le_of_ble_eq_true rfl) ?_
      show Ex qm_lay _ mX8_sheet 4 [some (.ref 54), some (.int s), some (.int x), some (.int n)] [.int (b2i (tn_in s 0 3))] σ _ _
      refine ex_if_eq (q := 17) (q2 := 7) dX8_sheet_4 rfl rfl (fun _ => ?_) (fun hh => absurd (b2i_0.mpr (by simpa using c1)) hh)
      refine ex_bipush (x := (-2)) dX8_sheet_17 rfl rfl ?_
      exact ex_iret dX8_sheet_19 rfl rfl rfl
    · have h : MR σ T := hM.1
      refine Ok.of (ls := [some (.ref 55), some (.int s), some (.int x), some (.int n), none]) (Nat.le_of_ble_eq_true rfl) rfl ?_
      refine ex_iload_n dX9_sheet_0 rfl rfl ?_
      refine ex_iconst (x := 0) dX9_sheet_1 rfl rfl ?_
      refine ex_iconst (x := 3) dX9_sheet_2 rfl rfl ?_
      refine ex_callS (rest := []) dX9_sheet_3 rfl qp_8_81 rfl rfl rfl (Nat.le_of_ble_eq_true rfl) (k_in _ _ _ _) (Nat.le_of_ble_eq_true rfl) ?_
      show Ex qm_lay _ mX9_sheet 6 [some (.ref 55), some (.int s), some (.int x), some (.int n), none] [.int (b2i (tn_in s 0 3))] σ _ _
      refine ex_if_eq (q := 29) (q2 := 9) dX9_sheet_6 rfl rfl (fun _ => ?_) (fun hh => absurd (b2i_0.mpr (by simpa using c1)) hh)
      refine ex_bipush (x := (-2)) dX9_sheet_29 rfl rfl ?_
      exact ex_iret dX9_sheet_31 rfl rfl rfl

set_option maxHeartbeats 2000000 in
theorem j_cell {T : tn_T} {X : gx_T} {P : gt_T} {Im : gi_T} {S : gs_T} (hG : gg_ok (T, X, P, Im, S)) (s i v : Int32) : J mX8_cell mX9_cell [.int s, .int i, .int v] (T, X, P, Im, S) := by
  have hT : tn_ok T := hG.1
  have hX : gx_ok X := hG.2.1
  have hP : gt_ok P := hG.2.2.1
  have hI : gi_ok T (gx_n X) Im := hG.2.2.2.1
  have hS : gs_ok S := hG.2.2.2.2.1
  have hw : tn_w T < gx_n X := hG.2.2.2.2.2
  have hL := hT.1
  have hw6 := hT.2.1
  have hu := tn_u_lt hT
  have hX6 := hX.2.1
  have hP6 := hP.1
  by_cases c1 : tn_in s 0 3 = true
  · obtain ⟨s, hs, rfl⟩ := tn_in_of (n := 3) (by decide) c1
    have hs4 : s < 4 := by omega
    have h40 := (hS s hs4).2
    by_cases c2 : S.1 s = -1
    · refine J.q hG (.int (-11)) (fun σ hC => ?_) (fun σ hM => ?_)
      · have h : TR σ 9 18 T := hC.1
        refine Ok.of (ls := [some (.ref 54), some (.int (nI s)), some (.int i), some (.int v)]) (Nat.le_of_ble_eq_true rfl) rfl ?_
        refine ex_iload_n dX8_cell_0 rfl rfl ?_
        refine ex_callS (rest := []) dX8_cell_1 rfl qp_7_201 rfl rfl rfl (Nat.le_of_ble_eq_true rfl) (c_isSheet _ _) (Nat.le_of_ble_eq_true rfl) ?_
        show Ex qm_lay _ mX8_cell 4 [some (.ref 54), some (.int (nI s)), some (.int i), some (.int v)] [.int (b2i (tn_in (nI s) 0 3))] σ _ _
        refine ex_if_ne (q := 10) (q2 := 7) dX8_cell_4 rfl rfl (fun _ => ?_) (fun hh => absurd (b2i_n0.mpr (c1)) hh)
        refine ex_aload_n dX8_cell_10 rfl rfl ?_
        refine ex_getR (b := 40) dX8_cell_11 rfl qp_7_36 rfl rfl ?_
        refine ex_iload_n dX8_cell_14 rfl rfl ?_
        refine ex_callV (a := 40) (rest := []) dX8_cell_15 rfl qp_7_204 rfl rfl rfl rfl rfl (Nat.le_of_ble_eq_true rfl) (c_isMissing hS hC.2.2.2.2 (by omega)) (Nat.le_of_ble_eq_true rfl) ?_
        show Ex qm_lay _ mX8_cell 18 [some (.ref 54), some (.int (nI s)), some (.int i), some (.int v)] [.int (b2i (decide (S.1 s = -1)))] σ _ _
        refine ex_if_eq (q := 24) (q2 := 21) dX8_cell_18 rfl rfl (fun hh => absurd hh (b2i_n0.mpr (decide_eq_true c2))) (fun _ => ?_)
        refine ex_bipush (x := (-11)) dX8_cell_21 rfl rfl ?_
        exact ex_iret dX8_cell_23 rfl rfl rfl
      · have h : MR σ T := hM.1
        refine Ok.of (ls := [some (.ref 55), some (.int (nI s)), some (.int i), some (.int v)]) (Nat.le_of_ble_eq_true rfl) rfl ?_
        refine ex_iload_n dX9_cell_0 rfl rfl ?_
        refine ex_iconst (x := 0) dX9_cell_1 rfl rfl ?_
        refine ex_iconst (x := 3) dX9_cell_2 rfl rfl ?_
        refine ex_callS (rest := []) dX9_cell_3 rfl qp_8_81 rfl rfl rfl (Nat.le_of_ble_eq_true rfl) (k_in _ _ _ _) (Nat.le_of_ble_eq_true rfl) ?_
        show Ex qm_lay _ mX9_cell 6 [some (.ref 55), some (.int (nI s)), some (.int i), some (.int v)] [.int (b2i (tn_in (nI s) 0 3))] σ _ _
        refine ex_if_ne (q := 12) (q2 := 9) dX9_cell_6 rfl rfl (fun _ => ?_) (fun hh => absurd (b2i_n0.mpr (c1)) hh)
        refine ex_aload_n dX9_cell_12 rfl rfl ?_
        refine ex_getR (b := 65) dX9_cell_13 rfl qp_8_37 rfl rfl ?_
        refine ex_iload_n dX9_cell_16 rfl rfl ?_
        refine ex_iaload (k := s) (x := S.1 s) dX9_cell_17 rfl rfl (rfl) (by omega) (by decide) ((hM.2.2.2.2.1 s (by omega)).1) ?_
        refine ex_iconst (x := (-1)) dX9_cell_18 rfl rfl ?_
        refine ex_icmp_ne (q := 25) (q2 := 22) dX9_cell_19 rfl rfl (fun hh => absurd hh (fun zz => zz c2)) (fun _ => ?_)
        refine ex_bipush (x := (-11)) dX9_cell_22 rfl rfl ?_
        exact ex_iret dX9_cell_24 rfl rfl rfl
    · by_cases c3 : gs_hc (S.2.1 s) i = true
      · obtain ⟨j, hj, rfl⟩ := gs_hc_of (by omega) c3
        refine J.u (.int 1) (T, X, P, Im, gs_pc S s j (gs_pv S s v)) hG (fun σ hC => ?_) (fun σ hM => ?_)
        · have h : TR σ 9 18 T := hC.1
          have hg : sm σ (qm_wF σ (35 + s) j (gs_pv S s v)) 25 25 33 39 := (sm.rf σ 25 25 33 39).wF _ (by omega)
          refine ⟨_, ?_, CG.sheets hX hC (SCpc hC.2.2.2.2 s j _ hs4) hg, hg.wid (by omega) (by omega)⟩
          refine Ok.of (ls := [some (.ref 54), some (.int (nI s)), some (.int (nI j)), some (.int v)]) (Nat.le_of_ble_eq_true rfl) rfl ?_
          refine ex_iload_n dX8_cell_0 rfl rfl ?_
          refine ex_callS (rest := []) dX8_cell_1 rfl qp_7_201 rfl rfl rfl (Nat.le_of_ble_eq_true rfl) (c_isSheet _ _) (Nat.le_of_ble_eq_true rfl) ?_
          show Ex qm_lay _ mX8_cell 4 [some (.ref 54), some (.int (nI s)), some (.int (nI j)), some (.int v)] [.int (b2i (tn_in (nI s) 0 3))] σ _ _
          refine ex_if_ne (q := 10) (q2 := 7) dX8_cell_4 rfl rfl (fun _ => ?_) (fun hh => absurd (b2i_n0.mpr (c1)) hh)
          refine ex_aload_n dX8_cell_10 rfl rfl ?_
          refine ex_getR (b := 40) dX8_cell_11 rfl qp_7_36 rfl rfl ?_
          refine ex_iload_n dX8_cell_14 rfl rfl ?_
          refine ex_callV (a := 40) (rest := []) dX8_cell_15 rfl qp_7_204 rfl rfl rfl rfl rfl (Nat.le_of_ble_eq_true rfl) (c_isMissing hS hC.2.2.2.2 (by omega)) (Nat.le_of_ble_eq_true rfl) ?_
          show Ex qm_lay _ mX8_cell 18 [some (.ref 54), some (.int (nI s)), some (.int (nI j)), some (.int v)] [.int (b2i (decide (S.1 s = -1)))] σ _ _
          refine ex_if_eq (q := 24) (q2 := 21) dX8_cell_18 rfl rfl (fun _ => ?_) (fun hh => absurd (b2i_0.mpr (decide_eq_false c2)) hh)
          refine ex_aload_n dX8_cell_24 rfl rfl ?_
          refine ex_getR (b := 40) dX8_cell_25 rfl qp_7_36 rfl rfl ?_
          refine ex_iload_n dX8_cell_28 rfl rfl ?_
          refine ex_iload_n dX8_cell_29 rfl rfl ?_
          refine ex_callV (a := 40) (rest := []) dX8_cell_30 rfl qp_7_285 rfl rfl rfl rfl rfl (Nat.le_of_ble_eq_true rfl) (c_hasCell hS hC.2.2.2.2 (by omega) _) (Nat.le_of_ble_eq_true rfl) ?_
          show Ex qm_lay _ mX8_cell 33 [some (.ref 54), some (.int (nI s)), some (.int (nI j)), some (.int v)] [.int (b2i (gs_hc (S.2.1 s) (nI j)))] σ _ _
          refine ex_if_ne (q := 39) (q2 := 36) dX8_cell_33 rfl rfl (fun _ => ?_) (fun hh => absurd (b2i_n0.mpr (c3)) hh)
          refine ex_aload_n dX8_cell_39 rfl rfl ?_
          refine ex_getR (b := 40) dX8_cell_40 rfl qp_7_36 rfl rfl ?_
          refine ex_iload_n dX8_cell_43 rfl rfl ?_
          refine ex_iload_n dX8_cell_44 rfl rfl ?_
          refine ex_iload_n dX8_cell_45 rfl rfl ?_
          refine ex_callV (a := 40) (rest := []) dX8_cell_46 rfl qp_7_260 rfl rfl rfl rfl rfl (Nat.le_of_ble_eq_true rfl) (c_putCell hS hC.2.2.2.2 hs4 (by omega) v) (Nat.le_of_ble_eq_true rfl) ?_
          show Ex qm_lay _ mX8_cell 49 [some (.ref 54), some (.int (nI s)), some (.int (nI j)), some (.int v)] [] (qm_wF σ (35 + s) j (gs_pv S s v)) _ _
          refine ex_iconst (x := 1) dX8_cell_49 rfl rfl ?_
          exact ex_iret dX8_cell_50 rfl rfl rfl
        · have h : MR σ T := hM.1
          have hg : sm σ (qm_wF σ 53 (40 * s + j) (gs_pv S s v)) 36 36 51 54 := (sm.rf σ 36 36 51 54).wF _ (by omega)
          refine ⟨_, ?_, MG.sheets hM (SMpc hM.2.2.2.2.1 s j _ hs4 (by omega)) hg, hg.wid (by omega) (by omega)⟩
          refine Ok.of (ls := [some (.ref 55), some (.int (nI s)), some (.int (nI j)), some (.int v)]) (Nat.le_of_ble_eq_true rfl) rfl ?_
          refine ex_iload_n dX9_cell_0 rfl rfl ?_
          refine ex_iconst (x := 0) dX9_cell_1 rfl rfl ?_
          refine ex_iconst (x := 3) dX9_cell_2 rfl rfl ?_
          refine ex_callS (rest := []) dX9_cell_3 rfl qp_8_81 rfl rfl rfl (Nat.le_of_ble_eq_true rfl) (k_in _ _ _ _) (Nat.le_of_ble_eq_true rfl) ?_
          show Ex qm_lay _ mX9_cell 6 [some (.ref 55), some (.int (nI s)), some (.int (nI j)), some (.int v)] [.int (b2i (tn_in (nI s) 0 3))] σ _ _
          refine ex_if_ne (q := 12) (q2 := 9) dX9_cell_6 rfl rfl (fun _ => ?_) (fun hh => absurd (b2i_n0.mpr (c1)) hh)
          refine ex_aload_n dX9_cell_12 rfl rfl ?_
          refine ex_getR (b := 65) dX9_cell_13 rfl qp_8_37 rfl rfl ?_
          refine ex_iload_n dX9_cell_16 rfl rfl ?_
          refine ex_iaload (k := s) (x := S.1 s) dX9_cell_17 rfl rfl (rfl) (by omega) (by decide) ((hM.2.2.2.2.1 s (by omega)).1) ?_
          refine ex_iconst (x := (-1)) dX9_cell_18 rfl rfl ?_
          refine ex_icmp_ne (q := 25) (q2 := 22) dX9_cell_19 rfl rfl (fun _ => ?_) (fun hh => absurd (c2) hh)
          refine ex_iload_n dX9_cell_25 rfl rfl ?_
          refine ex_iconst (x := 0) dX9_cell_26 rfl rfl ?_
          refine ex_aload_n dX9_cell_27 rfl rfl ?_
          refine ex_getR (b := 66) dX9_cell_28 rfl qp_8_40 rfl rfl ?_
          refine ex_iload_n dX9_cell_31 rfl rfl ?_
          refine ex_iaload (k := s) (x := nI (S.2.1 s)) dX9_cell_32 rfl rfl (rfl) (by omega) (by decide) ((hM.2.2.2.2.1 s (by omega)).2.1) ?_
          refine ex_iconst (x := 1) dX9_cell_33 rfl rfl ?_
          refine ex_isub (z := nI (S.2.1 s) - 1) dX9_cell_34 rfl (rfl) ?_
          refine ex_callS (rest := []) dX9_cell_35 rfl qp_8_81 rfl rfl rfl (Nat.le_of_ble_eq_true rfl) (k_in _ _ _ _) (Nat.le_of_ble_eq_true rfl) ?_
          show Ex qm_lay _ mX9_cell 38 [some (.ref 55), some (.int (nI s)), some (.int (nI j)), some (.int v)] [.int (b2i (tn_in (nI j) 0 (nI (S.2.1 s) - 1)))] σ _ _
          refine ex_if_ne (q := 44) (q2 := 41) dX9_cell_38 rfl rfl (fun _ => ?_) (fun hh => absurd (b2i_n0.mpr ((by rw [gs_hc_in (by omega)]; exact c3))) hh)
          refine ex_aload_n dX9_cell_44 rfl rfl ?_
          refine ex_getR (b := 67) dX9_cell_45 rfl qp_8_43 rfl rfl ?_
          refine ex_bipush (x := 40) dX9_cell_48 rfl rfl ?_
          refine ex_iload_n dX9_cell_50 rfl rfl ?_
          refine ex_imul (z := nI (40 * s)) dX9_cell_51 rfl (pk_mul 40 s) ?_
          refine ex_iload_n dX9_cell_52 rfl rfl ?_
          refine ex_iadd (z := nI ((40 * s) + j)) dX9_cell_53 rfl (nI_add (40 * s) j) ?_
          refine ex_aload_n dX9_cell_54 rfl rfl ?_
          refine ex_getR (b := 65) dX9_cell_55 rfl qp_8_37 rfl rfl ?_
          refine ex_iload_n dX9_cell_58 rfl rfl ?_
          refine ex_iaload (k := s) (x := S.1 s) dX9_cell_59 rfl rfl (rfl) (by omega) (by decide) ((hM.2.2.2.2.1 s (by omega)).1) ?_
          refine ex_if_ne (q := 68) (q2 := 63) dX9_cell_60 rfl rfl (fun h60 => ?_) (fun h60 => ?_)
          · refine ex_aload_n dX9_cell_68 rfl rfl ?_
            refine ex_getR (b := 65) dX9_cell_69 rfl qp_8_37 rfl rfl ?_
            refine ex_iload_n dX9_cell_72 rfl rfl ?_
            refine ex_iaload (k := s) (x := S.1 s) dX9_cell_73 rfl rfl (rfl) (by omega) (by decide) ((hM.2.2.2.2.1 s (by omega)).1) ?_
            refine ex_iconst (x := 1) dX9_cell_74 rfl rfl ?_
            refine ex_icmp_ne (q := 83) (q2 := 78) dX9_cell_75 rfl rfl (fun h75 => ?_) (fun h75 => ?_)
            · refine ex_iload_n dX9_cell_83 rfl rfl ?_
              refine ex_iastore (k := (40 * s) + j) (σ' := qm_wF σ 53 ((40 * s) + j) v) dX9_cell_84 rfl rfl (rfl) (by omega) (by decide) rfl ?_
              refine ex_iconst (x := 1) dX9_cell_85 rfl rfl ?_
              exact ex_iret dX9_cell_86 rfl (rfl) (congrArg (qm_wF σ 53 (40 * s + j)) ((if_neg h60).trans (if_neg h75)).symm)
            · refine ex_iload_n dX9_cell_78 rfl rfl ?_
              refine ex_i2s (z := v.toInt16.toInt32) dX9_cell_79 rfl (rfl) ?_
              refine ex_goto (q := 84) dX9_cell_80 rfl ?_
              refine ex_iastore (k := (40 * s) + j) (σ' := qm_wF σ 53 ((40 * s) + j) v.toInt16.toInt32) dX9_cell_84 rfl rfl (rfl) (by omega) (by decide) rfl ?_
              refine ex_iconst (x := 1) dX9_cell_85 rfl rfl ?_
              exact ex_iret dX9_cell_86 rfl (rfl) (congrArg (qm_wF σ 53 (40 * s + j)) ((if_neg h60).trans (if_pos (Decidable.not_not.mp h75))).symm)
          · refine ex_iload_n dX9_cell_63 rfl rfl ?_
            refine ex_i2b (z := v.toInt8.toInt32) dX9_cell_64 rfl (rfl) ?_
            refine ex_goto (q := 84) dX9_cell_65 rfl ?_
            refine ex_iastore (k := (40 * s) + j) (σ' := qm_wF σ 53 ((40 * s) + j) v.toInt8.toInt32) dX9_cell_84 rfl rfl (rfl) (by omega) (by decide) rfl ?_
            refine ex_iconst (x := 1) dX9_cell_85 rfl rfl ?_
            exact ex_iret dX9_cell_86 rfl (rfl) (congrArg (qm_wF σ 53 (40 * s + j)) (if_pos (Decidable.not_not.mp h60)).symm)
      · refine J.q hG (.int (-12)) (fun σ hC => ?_) (fun σ hM => ?_)
        · have h : TR σ 9 18 T := hC.1
          refine Ok.of (ls := [some (.ref 54), some (.int (nI s)), some (.int i), some (.int v)]) (Nat.le_of_ble_eq_true rfl) rfl ?_
          refine ex_iload_n dX8_cell_0 rfl rfl ?_
          refine ex_callS (rest := []) dX8_cell_1 rfl qp_7_201 rfl rfl rfl (Nat.le_of_ble_eq_true rfl) (c_isSheet _ _) (Nat.le_of_ble_eq_true rfl) ?_
          show Ex qm_lay _ mX8_cell 4 [some (.ref 54), some (.int (nI s)), some (.int i), some (.int v)] [.int (b2i (tn_in (nI s) 0 3))] σ _ _
          refine ex_if_ne (q := 10) (q2 := 7) dX8_cell_4 rfl rfl (fun _ => ?_) (fun hh => absurd (b2i_n0.mpr (c1)) hh)
          refine ex_aload_n dX8_cell_10 rfl rfl ?_
          refine ex_getR (b := 40) dX8_cell_11 rfl qp_7_36 rfl rfl ?_
          refine ex_iload_n dX8_cell_14 rfl rfl ?_
          refine ex_callV (a := 40) (rest := []) dX8_cell_15 rfl qp_7_204 rfl rfl rfl rfl rfl (Nat.le_of_ble_eq_true rfl) (c_isMissing hS hC.2.2.2.2 (by omega)) (Nat.le_of_ble_eq_true rfl) ?_
          show Ex qm_lay _ mX8_cell 18 [some (.ref 54), some (.int (nI s)), some (.int i), some (.int v)] [.int (b2i (decide (S.1 s = -1)))] σ _ _
          refine ex_if_eq (q := 24) (q2 := 21) dX8_cell_18 rfl rfl (fun _ => ?_) (fun hh => absurd (b2i_0.mpr (decide_eq_false c2)) hh)
          refine ex_aload_n dX8_cell_24 rfl rfl ?_
          refine ex_getR (b := 40) dX8_cell_25 rfl qp_7_36 rfl rfl ?_
          refine ex_iload_n dX8_cell_28 rfl rfl ?_
          refine ex_iload_n dX8_cell_29 rfl rfl ?_
          refine ex_callV (a := 40) (rest := []) dX8_cell_30 rfl qp_7_285 rfl rfl rfl rfl rfl (Nat.le_of_ble_eq_true rfl) (c_hasCell hS hC.2.2.2.2 (by omega) _) (Nat.le_of_ble_eq_true rfl) ?_
          show Ex qm_lay _ mX8_cell 33 [some (.ref 54), some (.int (nI s)), some (.int i), some (.int v)] [.int (b2i (gs_hc (S.2.1 s) i))] σ _ _
          refine ex_if_ne (q := 39) (q2 := 36) dX8_cell_33 rfl rfl (fun hh => absurd hh (fun zz => zz (b2i_0.mpr (by simpa using c3)))) (fun _ => ?_)
          refine ex_bipush (x := (-12)) dX8_cell_36 rfl rfl ?_
          exact ex_iret dX8_cell_38 rfl rfl rfl
        · have h : MR σ T := hM.1
          refine Ok.of (ls := [some (.ref 55), some (.int (nI s)), some (.int i), some (.int v)]) (Nat.le_of_ble_eq_true rfl) rfl ?_
          refine ex_iload_n dX9_cell_0 rfl rfl ?_
          refine ex_iconst (x := 0) dX9_cell_1 rfl rfl ?_
          refine ex_iconst (x := 3) dX9_cell_2 rfl rfl ?_
          refine ex_callS (rest := []) dX9_cell_3 rfl qp_8_81 rfl rfl rfl (Nat.le_of_ble_eq_true rfl) (k_in _ _ _ _) (Nat.le_of_ble_eq_true rfl) ?_
          show Ex qm_lay _ mX9_cell 6 [some (.ref 55), some (.int (nI s)), some (.int i), some (.int v)] [.int (b2i (tn_in (nI s) 0 3))] σ _ _
          refine ex_if_ne (q := 12) (q2 := 9) dX9_cell_6 rfl rfl (fun _ => ?_) (fun hh => absurd (b2i_n0.mpr (c1)) hh)
          refine ex_aload_n dX9_cell_12 rfl rfl ?_
          refine ex_getR (b := 65) dX9_cell_13 rfl qp_8_37 rfl rfl ?_
          refine ex_iload_n dX9_cell_16 rfl rfl ?_
          refine ex_iaload (k := s) (x := S.1 s) dX9_cell_17 rfl rfl (rfl) (by omega) (by decide) ((hM.2.2.2.2.1 s (by omega)).1) ?_
          refine ex_iconst (x := (-1)) dX9_cell_18 rfl rfl ?_
          refine ex_icmp_ne (q := 25) (q2 := 22) dX9_cell_19 rfl rfl (fun _ => ?_) (fun hh => absurd (c2) hh)
          refine ex_iload_n dX9_cell_25 rfl rfl ?_
          refine ex_iconst (x := 0) dX9_cell_26 rfl rfl ?_
          refine ex_aload_n dX9_cell_27 rfl rfl ?_
          refine ex_getR (b := 66) dX9_cell_28 rfl qp_8_40 rfl rfl ?_
          refine ex_iload_n dX9_cell_31 rfl rfl ?_
          refine ex_iaload (k := s) (x := nI (S.2.1 s)) dX9_cell_32 rfl rfl (rfl) (by omega) (by decide) ((hM.2.2.2.2.1 s (by omega)).2.1) ?_
          refine ex_iconst (x := 1) dX9_cell_33 rfl rfl ?_
          refine ex_isub (z := nI (S.2.1 s) - 1) dX9_cell_34 rfl (rfl) ?_
          refine ex_callS (rest := []) dX9_cell_35 rfl qp_8_81 rfl rfl rfl (Nat.le_of_ble_eq_true rfl) (k_in _ _ _ _) (Nat.le_of_ble_eq_true rfl) ?_
          show Ex qm_lay _ mX9_cell 38 [some (.ref 55), some (.int (nI s)), some (.int i), some (.int v)] [.int (b2i (tn_in i 0 (nI (S.2.1 s) - 1)))] σ _ _
          refine ex_if_ne (q := 44) (q2 := 41) dX9_cell_38 rfl rfl (fun hh => absurd hh (fun zz => zz (b2i_0.mpr ((by rw [gs_hc_in (by omega)]; simpa using c3))))) (fun _ => ?_)
          refine ex_bipush (x := (-12)) dX9_cell_41 rfl rfl ?_
          exact ex_iret dX9_cell_43 rfl rfl rfl
  · refine J.q hG (.int (-2)) (fun σ hC => ?_) (fun σ hM => ?_)
    · have h : TR σ 9 18 T := hC.1
      refine Ok.of (ls := [some (.ref 54), some (.int s), some (.int i), some (.int v)]) (Nat.le_of_ble_eq_true rfl) rfl ?_
      refine ex_iload_n dX8_cell_0 rfl rfl ?_
      refine ex_callS (rest := []) dX8_cell_1 rfl qp_7_201 rfl rfl rfl (Nat.le_of_ble_eq_true rfl) (c_isSheet _ _) (Nat.le_of_ble_eq_true rfl) ?_
      show Ex qm_lay _ mX8_cell 4 [some (.ref 54), some (.int s), some (.int i), some (.int v)] [.int (b2i (tn_in s 0 3))] σ _ _
      refine ex_if_ne (q := 10) (q2 := 7) dX8_cell_4 rfl rfl (fun hh => absurd hh (fun zz => zz (b2i_0.mpr (by simpa using c1)))) (fun _ => ?_)
      refine ex_bipush (x := (-2)) dX8_cell_7 rfl rfl ?_
      exact ex_iret dX8_cell_9 rfl rfl rfl
    · have h : MR σ T := hM.1
      refine Ok.of (ls := [some (.ref 55), some (.int s), some (.int i), some (.int v)]) (Nat.le_of_ble_eq_true rfl) rfl ?_
      refine ex_iload_n dX9_cell_0 rfl rfl ?_
      refine ex_iconst (x := 0) dX9_cell_1 rfl rfl ?_
      refine ex_iconst (x := 3) dX9_cell_2 rfl rfl ?_
      refine ex_callS (rest := []) dX9_cell_3 rfl qp_8_81 rfl rfl rfl (Nat.le_of_ble_eq_true rfl) (k_in _ _ _ _) (Nat.le_of_ble_eq_true rfl) ?_
      show Ex qm_lay _ mX9_cell 6 [some (.ref 55), some (.int s), some (.int i), some (.int v)] [.int (b2i (tn_in s 0 3))] σ _ _
      refine ex_if_ne (q := 12) (q2 := 9) dX9_cell_6 rfl rfl (fun hh => absurd hh (fun zz => zz (b2i_0.mpr (by simpa using c1)))) (fun _ => ?_)
      refine ex_bipush (x := (-2)) dX9_cell_9 rfl rfl ?_
      exact ex_iret dX9_cell_11 rfl rfl rfl

set_option maxHeartbeats 2000000 in
theorem l_filmC {σ : qm_St} {T : tn_T} {S : gs_T} (hT : tn_ok T) (hS : gs_ok S) {s : Nat} (hs4 : s < 4) : ∀ (r k : Nat) (σ1 : qm_St), k + r = tn_L T → TR σ1 9 18 T → SC σ1 (gs_mf S s 2 (tn_L T) (fun i => if i < k then tn_cv T i else 0)) → sm σ σ1 25 25 33 39 → ∃ σ', Ex qm_lay 100 mX8_film 28 [some (.ref 54), some (.int (nI s)), some (.int (nI k))] [] σ1 (some (.int (nI (tn_L T)))) σ' ∧ SC σ' (gs_mf S s 2 (tn_L T) (fun i => if i < tn_L T then tn_cv T i else 0)) ∧ sm σ σ' 25 25 33 39 := by
  have hL := hT.1
  intro r
  induction r with
  | zero =>
    intro k σ1 hk h hC hs1
    have ek : k = tn_L T := by omega
    refine ⟨σ1, ?_, by rw [ek] at hC; exact hC, hs1⟩
    refine ex_iload_n dX8_film_28 rfl rfl ?_
    refine ex_aload_n dX8_film_29 rfl rfl ?_
    refine ex_getR (b := 22) dX8_film_30 rfl qp_7_10 rfl rfl ?_
    refine ex_getI (s := 9) (x := nI (tn_L T)) dX8_film_33 rfl qp_7_61 rfl rfl (h.1) ?_
    refine ex_icmp_ge (q := 62) (q2 := 39) dX8_film_36 rfl rfl (fun _ => ?_) (fun hh => absurd (nI_le (by omega) (by omega)) hh)
    refine ex_aload_n dX8_film_62 rfl rfl ?_
    refine ex_getR (b := 22) dX8_film_63 rfl qp_7_10 rfl rfl ?_
    refine ex_getI (s := 9) (x := nI (tn_L T)) dX8_film_66 rfl qp_7_61 rfl rfl (h.1) ?_
    exact ex_iret dX8_film_69 rfl rfl rfl
  | succ r ih =>
    intro k σ1 hk h hC hs1
    have hok := gs_mf_ok hS (s := s) (sort := 2) (n := tn_L T) (fun i => if i < k then tn_cv T i else 0) (Or.inr (Or.inr (Or.inr rfl))) (by omega)
    have hR := SCpc hC s k (gs_pv (gs_mf S s 2 (tn_L T) (fun i => if i < k then tn_cv T i else 0)) s (tn_cv T k)) hs4
    rw [gs_mk_pc] at hR
    have hg : sm σ1 (qm_wF σ1 (35 + s) k (gs_pv (gs_mf S s 2 (tn_L T) (fun i => if i < k then tn_cv T i else 0)) s (tn_cv T k))) 25 25 33 39 := (sm.rf σ1 25 25 33 39).wF _ (by omega)
    obtain ⟨σ', hE, hC2, hs2⟩ := ih (k + 1) _ (by omega) (h.sm hg (by omega) (by omega)) hR (hs1.tr hg)
    refine ⟨σ', ?_, hC2, hs2⟩
    refine ex_iload_n dX8_film_28 rfl rfl ?_
    refine ex_aload_n dX8_film_29 rfl rfl ?_
    refine ex_getR (b := 22) dX8_film_30 rfl qp_7_10 rfl rfl ?_
    refine ex_getI (s := 9) (x := nI (tn_L T)) dX8_film_33 rfl qp_7_61 rfl rfl (h.1) ?_
    refine ex_icmp_ge (q := 62) (q2 := 39) dX8_film_36 rfl rfl (fun hh => absurd hh (nI_ge (by omega) (by omega))) (fun _ => ?_)
    refine ex_aload_n dX8_film_39 rfl rfl ?_
    refine ex_getR (b := 40) dX8_film_40 rfl qp_7_36 rfl rfl ?_
    refine ex_iload_n dX8_film_43 rfl rfl ?_
    refine ex_iload_n dX8_film_44 rfl rfl ?_
    refine ex_aload_n dX8_film_45 rfl rfl ?_
    refine ex_getR (b := 22) dX8_film_46 rfl qp_7_10 rfl rfl ?_
    refine ex_iload_n dX8_film_49 rfl rfl ?_
    refine ex_callV (a := 22) (rest := [.int (nI k), .int (nI s), .ref 40]) dX8_film_50 rfl qp_7_123 rfl rfl rfl rfl rfl (Nat.le_of_ble_eq_true rfl) (c_colourOf_0n hT h (by omega)) (Nat.le_of_ble_eq_true rfl) ?_
    show Ex qm_lay _ mX8_film 53 [some (.ref 54), some (.int (nI s)), some (.int (nI k))] [.int (tn_cv T k), .int (nI k), .int (nI s), .ref 40] σ1 _ _
    refine ex_callV (a := 40) (rest := []) dX8_film_53 rfl qp_7_260 rfl rfl rfl rfl rfl (Nat.le_of_ble_eq_true rfl) (c_putCell hok hC hs4 (by omega) (tn_cv T k)) (Nat.le_of_ble_eq_true rfl) ?_
    show Ex qm_lay _ mX8_film 56 [some (.ref 54), some (.int (nI s)), some (.int (nI k))] [] (qm_wF σ1 (35 + s) k (gs_pv (gs_mf S s 2 (tn_L T) (fun i => if i < k then tn_cv T i else 0)) s (tn_cv T k))) _ _
    refine ex_iinc (y := nI (k + 1)) (ls' := [some (.ref 54), some (.int (nI s)), some (.int (nI (k + 1)))]) dX8_film_56 rfl rfl rfl (nI_add k 1) rfl ?_
    refine ex_goto (q := 28) dX8_film_59 rfl ?_
    exact hE

set_option maxHeartbeats 2000000 in
theorem j_film {T : tn_T} {X : gx_T} {P : gt_T} {Im : gi_T} {S : gs_T} (hG : gg_ok (T, X, P, Im, S)) (s : Int32) : J mX8_film mX9_film [.int s] (T, X, P, Im, S) := by
  have hT : tn_ok T := hG.1
  have hX : gx_ok X := hG.2.1
  have hP : gt_ok P := hG.2.2.1
  have hI : gi_ok T (gx_n X) Im := hG.2.2.2.1
  have hS : gs_ok S := hG.2.2.2.2.1
  have hw : tn_w T < gx_n X := hG.2.2.2.2.2
  have hL := hT.1
  have hw6 := hT.2.1
  have hu := tn_u_lt hT
  have hX6 := hX.2.1
  have hP6 := hP.1
  by_cases c1 : tn_in s 0 3 = true
  · obtain ⟨s, hs, rfl⟩ := tn_in_of (n := 3) (by decide) c1
    have hs4 : s < 4 := by omega
    refine J.u (.int (nI (tn_L T))) (T, X, P, Im, gs_mf S s 2 (tn_L T) (fun i => if i < tn_L T then tn_cv T i else 0)) ⟨hT, hX, hP, hI, gs_mf_ok hS _ (Or.inr (Or.inr (Or.inr rfl))) (by omega), hw⟩ (fun σ hC => ?_) (fun σ hM => ?_)
    · have h : TR σ 9 18 T := hC.1
      obtain ⟨σ1, hO, hR, hs2⟩ := c_makeRow hS hC.2.2.2.2 hs4 2 (tn_L T)
      obtain ⟨σ', hE, hR2, hs3⟩ := l_filmC (S := S) hT hS hs4 (tn_L T) 0 σ1 (by omega) (h.sm hs2 (by omega) (by omega)) hR hs2
      refine ⟨σ', ?_, CG.sheets hX hC hR2 hs3, hs3.wid (by omega) (by omega)⟩
      refine Ok.of (ls := [some (.ref 54), some (.int (nI s)), none]) (Nat.le_of_ble_eq_true rfl) rfl ?_
      refine ex_iload_n dX8_film_0 rfl rfl ?_
      refine ex_callS (rest := []) dX8_film_1 rfl qp_7_201 rfl rfl rfl (Nat.le_of_ble_eq_true rfl) (c_isSheet _ _) (Nat.le_of_ble_eq_true rfl) ?_
      show Ex qm_lay _ mX8_film 4 [some (.ref 54), some (.int (nI s)), none] [.int (b2i (tn_in (nI s) 0 3))] σ _ _
      refine ex_if_ne (q := 10) (q2 := 7) dX8_film_4 rfl rfl (fun _ => ?_) (fun hh => absurd (b2i_n0.mpr (c1)) hh)
      refine ex_aload_n dX8_film_10 rfl rfl ?_
      refine ex_getR (b := 40) dX8_film_11 rfl qp_7_36 rfl rfl ?_
      refine ex_iload_n dX8_film_14 rfl rfl ?_
      refine ex_iconst (x := 2) dX8_film_15 rfl rfl ?_
      refine ex_aload_n dX8_film_16 rfl rfl ?_
      refine ex_getR (b := 22) dX8_film_17 rfl qp_7_10 rfl rfl ?_
      refine ex_getI (s := 9) (x := nI (tn_L T)) dX8_film_20 rfl qp_7_61 rfl rfl (h.1) ?_
      refine ex_callV (a := 40) (rest := []) dX8_film_23 rfl qp_7_256 rfl rfl rfl rfl rfl (Nat.le_of_ble_eq_true rfl) (hO) (Nat.le_of_ble_eq_true rfl) ?_
      show Ex qm_lay _ mX8_film 26 [some (.ref 54), some (.int (nI s)), none] [] σ1 _ _
      refine ex_iconst (x := 0) dX8_film_26 rfl rfl ?_
      refine ex_istore_n (ls' := [some (.ref 54), some (.int (nI s)), some (.int 0)]) dX8_film_27 rfl (Nat.le_of_ble_eq_true rfl) rfl rfl ?_
      exact hE
    · have h : MR σ T := hM.1
      have hp : 40 * s + 40 ≤ 160 := by omega
      have hg : sm σ (qm_wF (qm_wF σ 51 s 2) 52 s (nI (tn_L T))) 36 36 51 54 := ((sm.rf σ 36 36 51 54).wF _ (by omega)).wF _ (by omega)
      obtain ⟨σ', hs2, hq, hE⟩ := l_filmM (σ := qm_wF (qm_wF σ 51 s 2) 52 s (nI (tn_L T))) hT (h.sm hg (by omega) (by omega)) hs4 40 0 _ rfl (sm.rf _ _ _ _ _) ⟨fun i hi => absurd hi (Nat.not_lt_zero i), fun p hp => rfl⟩
      have hsm : sm σ σ' 36 36 51 54 := hg.tr (hs2.wid (by omega) (by omega))
      refine ⟨σ', ?_, MG.sheets hM (SMmf (n := tn_L T) (f := fun i => if i < tn_L T then tn_cv T i else 0) hM.2.2.2.2.1 hs2 hq.1 (fun p hp => by rw [hq.2 p hp, rF_ne (by omega), rF_ne (by omega)])) hsm, hsm.wid (by omega) (by omega)⟩
      refine Ok.of (ls := [some (.ref 55), some (.int (nI s)), none]) (Nat.le_of_ble_eq_true rfl) rfl ?_
      refine ex_iload_n dX9_film_0 rfl rfl ?_
      refine ex_iconst (x := 0) dX9_film_1 rfl rfl ?_
      refine ex_iconst (x := 3) dX9_film_2 rfl rfl ?_
      refine ex_callS (rest := []) dX9_film_3 rfl qp_8_81 rfl rfl rfl (Nat.le_of_ble_eq_true rfl) (k_in _ _ _ _) (Nat.le_of_ble_eq_true rfl) ?_
      show Ex qm_lay _ mX9_film 6 [some (.ref 55), some (.int (nI s)), none] [.int (b2i (tn_in (nI s) 0 3))] σ _ _
      refine ex_if_ne (q := 12) (q2 := 9) dX9_film_6 rfl rfl (fun _ => ?_) (fun hh => absurd (b2i_n0.mpr (c1)) hh)
      refine ex_aload_n dX9_film_12 rfl rfl ?_
      refine ex_getR (b := 65) dX9_film_13 rfl qp_8_37 rfl rfl ?_
      refine ex_iload_n dX9_film_16 rfl rfl ?_
      refine ex_iconst (x := 2) dX9_film_17 rfl rfl ?_
      refine ex_iastore (k := s) (σ' := qm_wF σ 51 s 2) dX9_film_18 rfl rfl (rfl) (by omega) (by decide) rfl ?_
      refine ex_aload_n dX9_film_19 rfl rfl ?_
      refine ex_getR (b := 66) dX9_film_20 rfl qp_8_40 rfl rfl ?_
      refine ex_iload_n dX9_film_23 rfl rfl ?_
      refine ex_aload_n dX9_film_24 rfl rfl ?_
      refine ex_getI (s := 27) (x := nI (tn_L T)) dX9_film_25 rfl qp_8_78 rfl rfl (h.1.1) ?_
      refine ex_iastore (k := s) (σ' := qm_wF (qm_wF σ 51 s 2) 52 s (nI (tn_L T))) dX9_film_28 rfl rfl (rfl) (by omega) (by decide) rfl ?_
      refine ex_iconst (x := 0) dX9_film_29 rfl rfl ?_
      refine ex_istore_n (ls' := [some (.ref 55), some (.int (nI s)), some (.int 0)]) dX9_film_30 rfl (Nat.le_of_ble_eq_true rfl) rfl rfl ?_
      refine hE _ _ ?_
      refine ex_aload_n dX9_film_72 rfl rfl ?_
      refine ex_getI (s := 27) (x := nI (tn_L T)) dX9_film_73 rfl qp_8_78 rfl rfl ((by rw [hs2.1 _ (by omega)]; exact h.1.1)) ?_
      exact ex_iret dX9_film_76 rfl rfl rfl
  · refine J.q hG (.int (-2)) (fun σ hC => ?_) (fun σ hM => ?_)
    · have h : TR σ 9 18 T := hC.1
      refine Ok.of (ls := [some (.ref 54), some (.int s), none]) (Nat.le_of_ble_eq_true rfl) rfl ?_
      refine ex_iload_n dX8_film_0 rfl rfl ?_
      refine ex_callS (rest := []) dX8_film_1 rfl qp_7_201 rfl rfl rfl (Nat.le_of_ble_eq_true rfl) (c_isSheet _ _) (Nat.le_of_ble_eq_true rfl) ?_
      show Ex qm_lay _ mX8_film 4 [some (.ref 54), some (.int s), none] [.int (b2i (tn_in s 0 3))] σ _ _
      refine ex_if_ne (q := 10) (q2 := 7) dX8_film_4 rfl rfl (fun hh => absurd hh (fun zz => zz (b2i_0.mpr (by simpa using c1)))) (fun _ => ?_)
      refine ex_bipush (x := (-2)) dX8_film_7 rfl rfl ?_
      exact ex_iret dX8_film_9 rfl rfl rfl
    · have h : MR σ T := hM.1
      refine Ok.of (ls := [some (.ref 55), some (.int s), none]) (Nat.le_of_ble_eq_true rfl) rfl ?_
      refine ex_iload_n dX9_film_0 rfl rfl ?_
      refine ex_iconst (x := 0) dX9_film_1 rfl rfl ?_
      refine ex_iconst (x := 3) dX9_film_2 rfl rfl ?_
      refine ex_callS (rest := []) dX9_film_3 rfl qp_8_81 rfl rfl rfl (Nat.le_of_ble_eq_true rfl) (k_in _ _ _ _) (Nat.le_of_ble_eq_true rfl) ?_
      show Ex qm_lay _ mX9_film 6 [some (.ref 55), some (.int s), none] [.int (b2i (tn_in s 0 3))] σ _ _
      refine ex_if_ne (q := 12) (q2 := 9) dX9_film_6 rfl rfl (fun hh => absurd hh (fun zz => zz (b2i_0.mpr (by simpa using c1)))) (fun _ => ?_)
      refine ex_bipush (x := (-2)) dX9_film_9 rfl rfl ?_
      exact ex_iret dX9_film_11 rfl rfl rfl

