/-! ===== orders by a sheet ===== -/
theorem CG.aux {σ σ' : qm_St} {G : gg_T} (hG : gg_ok G) (h : CG σ G) (g : sm σ σ' 21 26 39 42) : CG σ' G :=
  ⟨h.1.sm g (by omega) (by omega), h.2.1.sm hG.2.1 g (by omega) (by omega), h.2.2.1.sm g (by omega) (by omega), h.2.2.2.1.sm g (by omega) (by omega), h.2.2.2.2.sm g (by omega)⟩
theorem MG.aux {σ σ' : qm_St} {G : gg_T} (h : MG σ G) (g : sm σ σ' 36 46 56 62) : MG σ' G :=
  ⟨h.1.sm g (by omega) (by omega), h.2.1.sm g (by omega) (by omega), h.2.2.1.sm g (by omega) (by omega), h.2.2.2.1.sm g (by omega) (by omega), h.2.2.2.2.1.sm g (by omega), h.2.2.2.2.2.sm g (by omega)⟩
/-- the other side's order -/
def RR (σ : qm_St) (os : List Nat) : Prop := qm_rI σ 44 = nI os.length ∧ os.length ≤ 7 ∧ ∀ i, i < os.length → qm_rF σ 60 i = nI (os.getD i 0)
theorem RR.sm {σ σ' : qm_St} {os : List Nat} (h : RR σ os) {i1 i2 j1 j2 : Nat} (g : sm σ σ' i1 i2 j1 j2) (hi : 45 ≤ i1 ∨ i2 ≤ 44) (hj : 61 ≤ j1 ∨ j2 ≤ 60) : RR σ' os := ⟨by rw [g.1 _ (by omega)]; exact h.1, h.2.1, fun i hi' => by rw [g.2 _ (by omega)]; exact h.2.2 i hi'⟩
theorem RR.app {σ : qm_St} {os : List Nat} (h : RR σ os) (h7 : os.length < 7) (l : Nat) : RR (qm_wI (qm_wF σ 60 os.length (nI l)) 44 (nI (os.length + 1))) (os ++ [l]) := by
  refine ⟨by rw [List.length_append]; rfl, by rw [List.length_append]; exact h7, fun i hi => ?_⟩
  rw [List.length_append] at hi
  have hi' : i < os.length + 1 := hi
  rw [rF_wI]
  by_cases e : i = os.length
  · rw [rF_eqi e, e]; simp
  · rw [rF_ne (Or.inr e), h.2.2 i (by omega)]
    simp [List.getD_eq_getElem?_getD, List.getElem?_append_left (show i < os.length by omega)]
theorem OR.app {σ : qm_St} {os : List Nat} (h : OR σ os) (h7 : os.length < 7) (l : Nat) : OR (qm_wI (qm_wF σ 39 os.length (nI l)) 21 (nI (os.length + 1))) (os ++ [l]) := by
  refine ⟨by rw [List.length_append]; rfl, by rw [List.length_append]; exact h7, fun i hi => ?_⟩
  rw [List.length_append] at hi
  have hi' : i < os.length + 1 := hi
  rw [rF_wI]
  by_cases e : i = os.length
  · rw [rF_eqi e, e]; simp
  · rw [rF_ne (Or.inr e), h.2.2 i (by omega)]
    simp [List.getD_eq_getElem?_getD, List.getElem?_append_left (show i < os.length by omega)]
theorem OR.nil {σ : qm_St} : OR (qm_wI σ 21 0) [] := ⟨rfl, by decide, fun i hi => absurd hi (Nat.not_lt_zero i)⟩
theorem RR.nil {σ : qm_St} : RR (qm_wI σ 44 0) [] := ⟨rfl, by decide, fun i hi => absurd hi (Nat.not_lt_zero i)⟩
/-- one place of an order: a lot that is left -/
def rd_c (x : Int32) (left : Nat) : Bool := decide (0 ≤ x ∧ x < 7) && left.testBit x.toNatClampNeg
def rd (f : Nat → Int32) : Nat → Nat → Nat → Option (List Nat × Nat)
  | 0, _, left => some ([], left)
  | r + 1, k, left => if rd_c (f k) left = true then (rd f r (k + 1) (tn_cl left (f k).toNatClampNeg)).map (fun p => ((f k).toNatClampNeg :: p.1, p.2)) else none
theorem rd_c_of {x : Int32} {left : Nat} (h : rd_c x left = true) : ∃ j, j < 7 ∧ x = nI j ∧ left.testBit j = true := by
  rw [rd_c, Bool.and_eq_true] at h
  obtain ⟨h1, h2⟩ := of_decide_eq_true h.1
  obtain ⟨j, hj, rfl⟩ := nI_of (Int32.not_lt.mpr h1)
  have h7 := (nI_ltI (b := 7) hj (by decide)).mp h2
  rw [nI_clamp hj] at h
  exact ⟨j, h7, rfl, h.2⟩
theorem rd_c_nI {j left : Nat} (h7 : j < 7) : rd_c (nI j) left = left.testBit j := by
  rw [rd_c, nI_clamp (by omega), decide_eq_true ⟨nI_pos' (by omega), nI_lt (b := 7) h7 (by decide)⟩, Bool.true_and]
set_option maxRecDepth 100000 in
theorem tn_pc_cl : ∀ j, j < 7 → ∀ u, u < 128 → u.testBit j = true → tn_pc (tn_cl u j) + 1 = tn_pc u := by decide +kernel
set_option maxRecDepth 100000 in
theorem tn_pc_0 : ∀ u, u < 128 → tn_pc u = 0 → u = 0 := by decide +kernel
set_option maxRecDepth 100000 in
theorem tn_cl_tb : ∀ j, j < 7 → ∀ i, i < 7 → ∀ u, u < 128 → (tn_cl u j).testBit i = (u.testBit i && !decide (i = j)) := by decide +kernel
theorem tn_cl_lt {u j : Nat} (h : u < 128) : tn_cl u j < 128 := Nat.lt_of_le_of_lt (tn_cl_le u j) h
theorem rd_pc (f : Nat → Int32) : ∀ r k left p, left < 128 → rd f r k left = some p → tn_pc p.2 + r = tn_pc left ∧ p.1.length = r ∧ p.2 ≤ left ∧ p.2 < 128 ∧ (∀ l ∈ p.1, l < 7 ∧ left.testBit l = true)
  | 0, k, left, p, hl, h => by
    rw [rd] at h
    have := Option.some.inj h; subst this
    exact ⟨rfl, rfl, Nat.le_refl _, hl, fun l hl => absurd hl List.not_mem_nil⟩
  | r + 1, k, left, p, hl, h => by
    rw [rd] at h
    by_cases c : rd_c (f k) left = true
    · rw [if_pos c] at h
      obtain ⟨j, hj, e, hb⟩ := rd_c_of c
      rw [e, nI_clamp (by omega)] at h
      cases e2 : rd f r (k + 1) (tn_cl left j) with
      | none => rw [e2] at h; cases h
      | some q =>
        rw [e2] at h
        have := Option.some.inj h; subst this
        obtain ⟨h1, h2, h3, h4, h5⟩ := rd_pc f r (k + 1) (tn_cl left j) q (tn_cl_lt hl) e2
        have h6 := tn_pc_cl j hj left hl hb
        refine ⟨by show tn_pc q.2 + (r + 1) = _; omega, by show (j :: q.1).length = r + 1; rw [List.length_cons, h2], Nat.le_trans h3 (tn_cl_le _ _), h4, fun l hl2 => ?_⟩
        rcases List.mem_cons.mp hl2 with e3 | e3
        · exact ⟨by omega, by rw [e3]; exact hb⟩
        · obtain ⟨g1, g2⟩ := h5 l e3
          rw [tn_cl_tb j hj l g1 left hl, Bool.and_eq_true] at g2
          exact ⟨g1, g2.1⟩
    · rw [if_neg c] at h; cases h
/-- the order that a sheet tells, if it tells just these lots -/
def so (S : gs_T) (s bits : Nat) : Option (List Nat) := if S.2.1 s = tn_pc bits then (rd (S.2.2 s) (S.2.1 s) 0 bits).map (fun p => p.1) else none
theorem so_of {S : gs_T} {s bits : Nat} {os : List Nat} (hb : bits < 128) (h : so S s bits = some os) : os.length = tn_pc bits ∧ S.2.1 s = tn_pc bits ∧ (∀ l ∈ os, l < 7 ∧ bits.testBit l = true) ∧ rd (S.2.2 s) (S.2.1 s) 0 bits = some (os, 0) := by
  unfold so at h
  by_cases c : S.2.1 s = tn_pc bits
  · rw [if_pos c] at h
    cases e : rd (S.2.2 s) (S.2.1 s) 0 bits with
    | none => rw [e] at h; cases h
    | some p =>
      rw [e] at h
      have := Option.some.inj h; subst this
      obtain ⟨h1, h2, h3, h4, h5⟩ := rd_pc _ _ _ _ p hb e
      have h0 : p.2 = 0 := tn_pc_0 _ h4 (by omega)
      exact ⟨by rw [h2, c], c, h5, by rw [← h0]⟩
  · rw [if_neg c] at h; cases h
def gs_ro (S : gs_T) (x : Int32) (bits : Nat) : Int32 := if tn_in x 0 3 = true then (if S.1 x.toNatClampNeg = -1 then -11 else if (so S x.toNatClampNeg bits).isSome = true then 0 else -2) else -2
theorem gs_ro_t {S : gs_T} {s bits : Nat} (h : s < 4) : gs_ro S (nI s) bits = if S.1 s = -1 then -11 else if (so S s bits).isSome = true then 0 else -2 := by
  have e : tn_in (nI s) 0 3 = true := tn_in_t (n := s) (x := 0) (y := 3) (Nat.zero_le _) (by omega) (by decide)
  rw [gs_ro, if_pos e, nI_clamp (by omega)]
theorem gs_ro_0 {S : gs_T} {x : Int32} {bits : Nat} (h : gs_ro S x bits = 0) : ∃ s os, s < 4 ∧ x = nI s ∧ so S s bits = some os := by
  by_cases c : tn_in x 0 3 = true
  · obtain ⟨s, hs, rfl⟩ := tn_in_of (n := 3) (by decide) c
    rw [gs_ro_t (by omega)] at h
    by_cases e : S.1 s = -1
    · rw [if_pos e] at h; exact absurd h (by decide)
    · rw [if_neg e] at h
      by_cases g : (so S s bits).isSome = true
      · obtain ⟨os, ho⟩ := Option.isSome_iff_exists.mp g
        exact ⟨s, os, by omega, rfl, ho⟩
      · rw [if_neg g] at h; exact absurd h (by decide)
  · rw [gs_ro, if_neg c] at h; exact absurd h (by decide)
/-- what the other side answers of it -/
def rd_v (p : Option (List Nat × Nat)) : Int32 := match p with
  | some q => if q.2 = 0 then 0 else -2
  | none => -2
theorem so_rd {S : gs_T} {s bits : Nat} (hb : bits < 128) : rd_v (rd (S.2.2 s) (S.2.1 s) 0 bits) = if (so S s bits).isSome = true then 0 else -2 := by
  unfold so
  cases e : rd (S.2.2 s) (S.2.1 s) 0 bits with
  | none =>
    by_cases c : S.2.1 s = tn_pc bits
    · rw [if_pos c]; rfl
    · rw [if_neg c]; rfl
  | some p =>
    obtain ⟨h1, h2, h3, h4, h5⟩ := rd_pc _ _ _ _ p hb e
    by_cases c : S.2.1 s = tn_pc bits
    · rw [if_pos c]
      have h0 : p.2 = 0 := tn_pc_0 _ h4 (by omega)
      show (if p.2 = 0 then (0 : Int32) else -2) = 0
      rw [if_pos h0]
    · rw [if_neg c]
      have h0 : ¬ p.2 = 0 := fun z => c (by rw [z] at h1; have : tn_pc 0 = 0 := by decide
                                            omega)
      show (if p.2 = 0 then (0 : Int32) else -2) = -2
      rw [if_neg h0]
theorem sx_says_bl {T T' : tn_T} (h1 : tn_L T' = tn_L T) (h2 : tn_w T' = tn_w T) (h3 : tn_b T' = tn_b T) (h4 : tn_m T' = tn_m T) (X : gx_T) (part l : Nat) (c o : Int32) : sx_says T' X part l c o = sx_says T X part l c o := by
  have e : sx_nm T' l c o = sx_nm T l c o := by funext j; unfold sx_nm; rw [h1, h3, h4]
  unfold sx_says sx_v; rw [e, h2]
theorem tn_bl_same : ∀ (os : List Nat) (T : tn_T), tn_L (tn_bl T os) = tn_L T ∧ tn_w (tn_bl T os) = tn_w T ∧ tn_b (tn_bl T os) = tn_b T ∧ tn_m (tn_bl T os) = tn_m T ∧ tn_k (tn_bl T os) = tn_k T
  | [], _ => ⟨rfl, rfl, rfl, rfl, rfl⟩
  | a :: os, T => tn_bl_same os (tn_bh T a)

theorem c_append {σ : qm_St} {os : List Nat} (h : OR σ os) (h7 : os.length < 7) (l : Nat) : Ok qm_lay 0 mX2_append [.ref 48, .int (nI l)] σ none (qm_wI (qm_wF σ 39 os.length (nI l)) 21 (nI (os.length + 1))) := by
  refine Ok.of (ls := [some (.ref 48), some (.int (nI l))]) (Nat.le_of_ble_eq_true rfl) rfl ?_
  refine ex_aload_n dX2_append_0 rfl rfl ?_
  refine ex_getI (s := 21) (x := nI os.length) dX2_append_1 rfl qp_1_15 rfl rfl (h.1) ?_
  refine ex_bipush (x := 7) dX2_append_4 rfl rfl ?_
  refine ex_icmp_ge (q := 29) (q2 := 9) dX2_append_6 rfl rfl (fun hh => absurd hh (nI_ge (a := os.length) (b := 7) (by omega) (by omega))) (fun _ => ?_)
  refine ex_aload_n dX2_append_9 rfl rfl ?_
  refine ex_getR (b := 49) dX2_append_10 rfl qp_1_9 rfl rfl ?_
  refine ex_aload_n dX2_append_13 rfl rfl ?_
  refine ex_getI (s := 21) (x := nI os.length) dX2_append_14 rfl qp_1_15 rfl rfl (h.1) ?_
  refine ex_iload_n dX2_append_17 rfl rfl ?_
  refine ex_iastore (k := os.length) (σ' := qm_wF σ 39 os.length (nI l)) dX2_append_18 rfl rfl (rfl) (by omega) (by decide) rfl ?_
  refine ex_aload_n dX2_append_19 rfl rfl ?_
  refine ex_dup dX2_append_20 rfl rfl ?_
  refine ex_getI (s := 21) (x := nI os.length) dX2_append_21 rfl qp_1_15 rfl rfl (h.1) ?_
  refine ex_iconst (x := 1) dX2_append_24 rfl rfl ?_
  refine ex_iadd (z := nI (os.length + 1)) dX2_append_25 rfl (nI_add os.length 1) ?_
  refine ex_put (σ' := qm_wI (qm_wF σ 39 os.length (nI l)) 21 (nI (os.length + 1))) dX2_append_26 rfl qp_1_15 rfl rfl (Or.inl rfl) rfl ?_
  exact ex_vret dX2_append_29 rfl rfl rfl

set_option maxHeartbeats 2000000 in
theorem l_becomesSheet {S : gs_T} (hS : gs_ok S) {s bits n : Nat} (hs4 : s < 4) (hn : S.2.1 s = n) (hn7 : n ≤ 7) : ∀ (r k left : Nat) (x : Option Value) (acc : List Nat) (σ : qm_St), k + r = n → left < 128 → OR σ acc → acc.length = k → SC σ S → ∃ σ', Ex qm_lay 5 mX2_becomesSheet 26 [some (.ref 48), some (.ref 40), some (.int (nI s)), some (.int (nI bits)), some (.int (nI left)), some (.int (nI k)), x] [] σ (some (.int (b2i (rd (S.2.2 s) r k left).isSome))) σ' ∧ (∀ p, rd (S.2.2 s) r k left = some p → OR σ' (acc ++ p.1)) ∧ sm σ σ' 21 22 39 40 := by
  intro r
  induction r with
  | zero =>
    intro k left x acc σ hk hl7 h ha hC
    refine ⟨σ, ?_, fun p hp => by rw [rd] at hp; rw [← Option.some.inj hp, List.append_nil]; exact h, sm.rf _ _ _ _ _⟩
    refine ex_iload dX2_becomesSheet_26 rfl rfl ?_
    refine ex_aload_n dX2_becomesSheet_28 rfl rfl ?_
    refine ex_getR (b := 42) dX2_becomesSheet_29 rfl qp_1_19 rfl rfl ?_
    refine ex_iload_n dX2_becomesSheet_32 rfl rfl ?_
    refine ex_iaload (k := s) (x := nI n) dX2_becomesSheet_33 rfl rfl (rfl) (by omega) (by decide) ((by rw [← hn]; exact (hC s hs4).2.1)) ?_
    refine ex_icmp_ge (q := 93) (q2 := 37) dX2_becomesSheet_34 rfl rfl (fun _ => ?_) (fun hh => absurd (nI_le (a := n) (b := k) (by omega) (by omega)) hh)
    refine ex_iconst (x := 1) dX2_becomesSheet_93 rfl rfl ?_
    exact ex_zret dX2_becomesSheet_94 rfl (by decide) rfl rfl
  | succ r ih =>
    intro k left x acc σ hk hl7 h ha hC
    have h40 := (hS s hs4).2
    by_cases c1 : rd_c (S.2.2 s k) left = true
    · obtain ⟨j, hj, e, hb⟩ := rd_c_of c1
      have ha7 : acc.length < 7 := by omega
      have hg : sm σ (qm_wI (qm_wF σ 39 acc.length (nI j)) 21 (nI (acc.length + 1))) 21 22 39 40 := ((sm.rf σ 21 22 39 40).wF _ (by omega)).wI _ (by omega)
      have e1 : rd (S.2.2 s) (r + 1) k left = (rd (S.2.2 s) r (k + 1) (tn_cl left j)).map (fun p => (j :: p.1, p.2)) := by rw [rd, if_pos c1, e, nI_clamp (by omega)]
      obtain ⟨σ', hE, hp, hs⟩ := ih (k + 1) (tn_cl left j) (some (.int (nI j))) (acc ++ [j]) _ (by omega) (tn_cl_lt hl7) (h.app ha7 j) (by rw [List.length_append, ha]; rfl) (hC.sm hg (by omega))
      refine ⟨σ', ?_, fun p hp2 => ?_, hg.tr hs⟩
      · rw [e1, Option.isSome_map]
        refine ex_iload dX2_becomesSheet_26 rfl rfl ?_
        refine ex_aload_n dX2_becomesSheet_28 rfl rfl ?_
        refine ex_getR (b := 42) dX2_becomesSheet_29 rfl qp_1_19 rfl rfl ?_
        refine ex_iload_n dX2_becomesSheet_32 rfl rfl ?_
        refine ex_iaload (k := s) (x := nI n) dX2_becomesSheet_33 rfl rfl (rfl) (by omega) (by decide) ((by rw [← hn]; exact (hC s hs4).2.1)) ?_
        refine ex_icmp_ge (q := 93) (q2 := 37) dX2_becomesSheet_34 rfl rfl (fun hh => absurd hh (nI_ge (a := k) (b := n) (by omega) (by omega))) (fun _ => ?_)
        refine ex_aload_n dX2_becomesSheet_37 rfl rfl ?_
        refine ex_iload_n dX2_becomesSheet_38 rfl rfl ?_
        refine ex_iload dX2_becomesSheet_39 rfl rfl ?_
        refine ex_callV (a := 40) (rest := []) dX2_becomesSheet_41 rfl qp_1_30 rfl rfl rfl rfl rfl (Nat.le_of_ble_eq_true rfl) ((by have z := c_cellAt_t hS hC hs4 (i := k) (by omega); rw [e] at z; exact z)) (Nat.le_of_ble_eq_true rfl) ?_
        show Ex qm_lay _ mX2_becomesSheet 44 [some (.ref 48), some (.ref 40), some (.int (nI s)), some (.int (nI bits)), some (.int (nI left)), some (.int (nI k)), x] [.int (nI j)] σ _ _
        refine ex_istore (ls' := [some (.ref 48), some (.ref 40), some (.int (nI s)), some (.int (nI bits)), some (.int (nI left)), some (.int (nI k)), some (.int (nI j))]) dX2_becomesSheet_44 rfl (Nat.le_of_ble_eq_true rfl) rfl rfl ?_
        refine ex_iload dX2_becomesSheet_46 rfl rfl ?_
        refine ex_if_lt (q := 68) (q2 := 51) dX2_becomesSheet_48 rfl rfl (fun hh => absurd hh (nI_pos (by omega))) (fun _ => ?_)
        refine ex_iload dX2_becomesSheet_51 rfl rfl ?_
        refine ex_bipush (x := 7) dX2_becomesSheet_53 rfl rfl ?_
        refine ex_icmp_ge (q := 68) (q2 := 58) dX2_becomesSheet_55 rfl rfl (fun hh => absurd hh (nI_ge (a := j) (b := 7) (by omega) (by omega))) (fun _ => ?_)
        refine ex_iload dX2_becomesSheet_58 rfl rfl ?_
        refine ex_iload dX2_becomesSheet_60 rfl rfl ?_
        refine ex_ishr (z := (nI left) >>> ((nI j) &&& 31)) dX2_becomesSheet_62 rfl (rfl) ?_
        refine ex_iconst (x := 1) dX2_becomesSheet_63 rfl rfl ?_
        refine ex_iand (z := b2i (Nat.testBit left j)) dX2_becomesSheet_64 rfl (nI_bit (by omega) (by omega)) ?_
        refine ex_if_ne (q := 70) (q2 := 68) dX2_becomesSheet_65 rfl rfl (fun _ => ?_) (fun hh => absurd (b2i_n0.mpr (hb)) hh)
        refine ex_iload dX2_becomesSheet_70 rfl rfl ?_
        refine ex_iconst (x := 1) dX2_becomesSheet_72 rfl rfl ?_
        refine ex_iload dX2_becomesSheet_73 rfl rfl ?_
        refine ex_ishl (z := nI (2 ^ j)) dX2_becomesSheet_75 rfl (nI_1shl (by omega)) ?_
        refine ex_iconst (x := (-1)) dX2_becomesSheet_76 rfl rfl ?_
        refine ex_ixor (z := (nI (2 ^ j)) ^^^ (-1)) dX2_becomesSheet_77 rfl (rfl) ?_
        refine ex_iand (z := nI (tn_cl left j)) dX2_becomesSheet_78 rfl (tn_cls (by omega) (by omega)) ?_
        refine ex_istore (ls' := [some (.ref 48), some (.ref 40), some (.int (nI s)), some (.int (nI bits)), some (.int (nI (tn_cl left j))), some (.int (nI k)), some (.int (nI j))]) dX2_becomesSheet_79 rfl (Nat.le_of_ble_eq_true rfl) rfl rfl ?_
        refine ex_aload_n dX2_becomesSheet_81 rfl rfl ?_
        refine ex_iload dX2_becomesSheet_82 rfl rfl ?_
        refine ex_callV (a := 48) (rest := []) dX2_becomesSheet_84 rfl qp_1_34 rfl rfl rfl rfl rfl (Nat.le_of_ble_eq_true rfl) (c_append h ha7 j) (Nat.le_of_ble_eq_true rfl) ?_
        show Ex qm_lay _ mX2_becomesSheet 87 [some (.ref 48), some (.ref 40), some (.int (nI s)), some (.int (nI bits)), some (.int (nI (tn_cl left j))), some (.int (nI k)), some (.int (nI j))] [] (qm_wI (qm_wF σ 39 acc.length (nI j)) 21 (nI (acc.length + 1))) _ _
        refine ex_iinc (y := nI (k + 1)) (ls' := [some (.ref 48), some (.ref 40), some (.int (nI s)), some (.int (nI bits)), some (.int (nI (tn_cl left j))), some (.int (nI (k + 1))), some (.int (nI j))]) dX2_becomesSheet_87 rfl rfl rfl (nI_add k 1) rfl ?_
        refine ex_goto (q := 26) dX2_becomesSheet_90 rfl ?_
        exact hE
      · rw [e1] at hp2
        cases e3 : rd (S.2.2 s) r (k + 1) (tn_cl left j) with
        | none => rw [e3] at hp2; cases hp2
        | some q =>
          rw [e3] at hp2
          have e4 := Option.some.inj hp2
          subst e4
          have := hp q e3
          rw [List.append_assoc] at this
          exact this
    · have e1 : rd (S.2.2 s) (r + 1) k left = none := by rw [rd, if_neg c1]
      refine ⟨σ, ?_, (fun p hp => by rw [e1] at hp; cases hp), sm.rf _ _ _ _ _⟩
      rw [e1]
      refine ex_iload dX2_becomesSheet_26 rfl rfl ?_
      refine ex_aload_n dX2_becomesSheet_28 rfl rfl ?_
      refine ex_getR (b := 42) dX2_becomesSheet_29 rfl qp_1_19 rfl rfl ?_
      refine ex_iload_n dX2_becomesSheet_32 rfl rfl ?_
      refine ex_iaload (k := s) (x := nI n) dX2_becomesSheet_33 rfl rfl (rfl) (by omega) (by decide) ((by rw [← hn]; exact (hC s hs4).2.1)) ?_
      refine ex_icmp_ge (q := 93) (q2 := 37) dX2_becomesSheet_34 rfl rfl (fun hh => absurd hh (nI_ge (a := k) (b := n) (by omega) (by omega))) (fun _ => ?_)
      refine ex_aload_n dX2_becomesSheet_37 rfl rfl ?_
      refine ex_iload_n dX2_becomesSheet_38 rfl rfl ?_
      refine ex_iload dX2_becomesSheet_39 rfl rfl ?_
      refine ex_callV (a := 40) (rest := []) dX2_becomesSheet_41 rfl qp_1_30 rfl rfl rfl rfl rfl (Nat.le_of_ble_eq_true rfl) (c_cellAt_t hS hC hs4 (by omega)) (Nat.le_of_ble_eq_true rfl) ?_
      show Ex qm_lay _ mX2_becomesSheet 44 [some (.ref 48), some (.ref 40), some (.int (nI s)), some (.int (nI bits)), some (.int (nI left)), some (.int (nI k)), x] [.int (S.2.2 s k)] σ _ _
      refine ex_istore (ls' := [some (.ref 48), some (.ref 40), some (.int (nI s)), some (.int (nI bits)), some (.int (nI left)), some (.int (nI k)), some (.int (S.2.2 s k))]) dX2_becomesSheet_44 rfl (Nat.le_of_ble_eq_true rfl) rfl rfl ?_
      refine ex_iload dX2_becomesSheet_46 rfl rfl ?_
      refine ex_if_lt (q := 68) (q2 := 51) dX2_becomesSheet_48 rfl rfl (fun h48 => ?_) (fun h48 => ?_)
      · refine ex_iconst (x := 0) dX2_becomesSheet_68 rfl rfl ?_
        exact ex_zret dX2_becomesSheet_69 rfl (by decide) rfl rfl
      · obtain ⟨j, hj, e⟩ := nI_of h48
        refine ex_iload dX2_becomesSheet_51 rfl rfl ?_
        refine ex_bipush (x := 7) dX2_becomesSheet_53 rfl rfl ?_
        refine ex_icmp_ge (q := 68) (q2 := 58) dX2_becomesSheet_55 rfl rfl (fun h55 => ?_) (fun h55 => ?_)
        · refine ex_iconst (x := 0) dX2_becomesSheet_68 rfl rfl ?_
          exact ex_zret dX2_becomesSheet_69 rfl (by decide) rfl rfl
        · have hj7 : j < 7 := by
            have h56 := h55
            rw [e] at h56
            exact (Nat.not_le.mp (mt (nI_leI (a := 7) (by decide) hj).mpr h56))
          have hbf : left.testBit j = false := by
            rw [e, rd_c_nI hj7] at c1
            simpa using c1
          refine ex_iload dX2_becomesSheet_58 rfl rfl ?_
          refine ex_iload dX2_becomesSheet_60 rfl rfl ?_
          refine ex_ishr (z := nI left >>> (nI j &&& 31)) dX2_becomesSheet_62 rfl (by rw [e]) ?_
          refine ex_iconst (x := 1) dX2_becomesSheet_63 rfl rfl ?_
          refine ex_iand (z := b2i (left.testBit j)) dX2_becomesSheet_64 rfl (nI_bit (by omega) (by omega)) ?_
          refine ex_if_ne (q := 70) (q2 := 68) dX2_becomesSheet_65 rfl rfl (fun hh => absurd hh (fun zz => zz (b2i_0.mpr (hbf)))) (fun _ => ?_)
          refine ex_iconst (x := 0) dX2_becomesSheet_68 rfl rfl ?_
          exact ex_zret dX2_becomesSheet_69 rfl (by decide) rfl rfl

set_option maxRecDepth 100000 in
theorem tn_pc_7 : ∀ u, u < 128 → tn_pc u ≤ 7 := by decide +kernel
set_option maxHeartbeats 2000000 in
theorem c_becomesSheet {σ : qm_St} {S : gs_T} (hS : gs_ok S) (hC : SC σ S) {s bits : Nat} (hs4 : s < 4) (hb : bits < 128) : ∃ σ', Ok qm_lay 5 mX2_becomesSheet [.ref 48, .ref 40, .int (nI s), .int (nI bits)] σ (some (.int (b2i (so S s bits).isSome))) σ' ∧ (∀ os, so S s bits = some os → OR σ' os) ∧ sm σ σ' 21 22 39 40 := by
  have h40 := (hS s hs4).2
  have hg : sm σ (qm_wI σ 21 0) 21 22 39 40 := (sm.rf σ 21 22 39 40).wI _ (by omega)
  have hp12 := tn_pc_le bits (by omega)
  by_cases c1 : S.2.1 s = tn_pc bits
  · have h7 : S.2.1 s ≤ 7 := by rw [c1]; exact tn_pc_7 bits hb
    obtain ⟨σ', hE, hp, hs⟩ := l_becomesSheet (bits := bits) hS hs4 rfl h7 (S.2.1 s) 0 bits none [] _ (by omega) hb (OR.nil (σ := σ)) rfl (hC.sm hg (by omega))
    have e1 : so S s bits = (rd (S.2.2 s) (S.2.1 s) 0 bits).map (fun p => p.1) := if_pos c1
    rw [e1, Option.isSome_map]
    refine ⟨σ', ?_, fun os hos => ?_, hg.tr hs⟩
    · refine Ok.of (ls := [some (.ref 48), some (.ref 40), some (.int (nI s)), some (.int (nI bits)), none, none, none]) (Nat.le_of_ble_eq_true rfl) rfl ?_
      refine ex_aload_n dX2_becomesSheet_0 rfl rfl ?_
      refine ex_iconst (x := 0) dX2_becomesSheet_1 rfl rfl ?_
      refine ex_put (σ' := qm_wI σ 21 0) dX2_becomesSheet_2 rfl qp_1_15 rfl rfl (Or.inl rfl) rfl ?_
      refine ex_aload_n dX2_becomesSheet_5 rfl rfl ?_
      refine ex_getR (b := 42) dX2_becomesSheet_6 rfl qp_1_19 rfl rfl ?_
      refine ex_iload_n dX2_becomesSheet_9 rfl rfl ?_
      refine ex_iaload (k := s) (x := nI (S.2.1 s)) dX2_becomesSheet_10 rfl rfl (rfl) (by omega) (by decide) ((hC s hs4).2.1) ?_
      refine ex_iload_n dX2_becomesSheet_11 rfl rfl ?_
      refine ex_callS (rest := [.int (nI (S.2.1 s))]) dX2_becomesSheet_12 rfl qp_1_24 rfl rfl rfl (Nat.le_of_ble_eq_true rfl) ((c_bitCount _ _).eq (by rw [jk_bc_nI _ (by omega)]) rfl) (Nat.le_of_ble_eq_true rfl) ?_
      show Ex qm_lay _ mX2_becomesSheet 15 [some (.ref 48), some (.ref 40), some (.int (nI s)), some (.int (nI bits)), none, none, none] [.int (nI (tn_pc bits)), .int (nI (S.2.1 s))] (qm_wI σ 21 0) _ _
      refine ex_icmp_eq (q := 20) (q2 := 18) dX2_becomesSheet_15 rfl rfl (fun _ => ?_) (fun hh => absurd (congrArg nI (show (S.2.1 s) = (tn_pc bits) by omega)) hh)
      refine ex_iload_n dX2_becomesSheet_20 rfl rfl ?_
      refine ex_istore (ls' := [some (.ref 48), some (.ref 40), some (.int (nI s)), some (.int (nI bits)), some (.int (nI bits)), none, none]) dX2_becomesSheet_21 rfl (Nat.le_of_ble_eq_true rfl) rfl rfl ?_
      refine ex_iconst (x := 0) dX2_becomesSheet_23 rfl rfl ?_
      refine ex_istore (ls' := [some (.ref 48), some (.ref 40), some (.int (nI s)), some (.int (nI bits)), some (.int (nI bits)), some (.int 0), none]) dX2_becomesSheet_24 rfl (Nat.le_of_ble_eq_true rfl) rfl rfl ?_
      exact hE
    · cases e3 : rd (S.2.2 s) (S.2.1 s) 0 bits with
      | none => rw [e3] at hos; cases hos
      | some q => rw [e3] at hos; have := Option.some.inj hos; subst this; exact hp q e3
  · have e1 : so S s bits = none := if_neg c1
    rw [e1]
    refine ⟨_, ?_, (fun os hos => by cases hos), hg⟩
    refine Ok.of (ls := [some (.ref 48), some (.ref 40), some (.int (nI s)), some (.int (nI bits)), none, none, none]) (Nat.le_of_ble_eq_true rfl) rfl ?_
    refine ex_aload_n dX2_becomesSheet_0 rfl rfl ?_
    refine ex_iconst (x := 0) dX2_becomesSheet_1 rfl rfl ?_
    refine ex_put (σ' := qm_wI σ 21 0) dX2_becomesSheet_2 rfl qp_1_15 rfl rfl (Or.inl rfl) rfl ?_
    refine ex_aload_n dX2_becomesSheet_5 rfl rfl ?_
    refine ex_getR (b := 42) dX2_becomesSheet_6 rfl qp_1_19 rfl rfl ?_
    refine ex_iload_n dX2_becomesSheet_9 rfl rfl ?_
    refine ex_iaload (k := s) (x := nI (S.2.1 s)) dX2_becomesSheet_10 rfl rfl (rfl) (by omega) (by decide) ((hC s hs4).2.1) ?_
    refine ex_iload_n dX2_becomesSheet_11 rfl rfl ?_
    refine ex_callS (rest := [.int (nI (S.2.1 s))]) dX2_becomesSheet_12 rfl qp_1_24 rfl rfl rfl (Nat.le_of_ble_eq_true rfl) ((c_bitCount _ _).eq (by rw [jk_bc_nI _ (by omega)]) rfl) (Nat.le_of_ble_eq_true rfl) ?_
    show Ex qm_lay _ mX2_becomesSheet 15 [some (.ref 48), some (.ref 40), some (.int (nI s)), some (.int (nI bits)), none, none, none] [.int (nI (tn_pc bits)), .int (nI (S.2.1 s))] (qm_wI σ 21 0) _ _
    refine ex_icmp_eq (q := 20) (q2 := 18) dX2_becomesSheet_15 rfl rfl (fun hh => absurd hh (fun zz => absurd ((nI_eq (a := (S.2.1 s)) (b := (tn_pc bits)) (by omega) (by omega)).mp zz) (by omega))) (fun _ => ?_)
    refine ex_iconst (x := 0) dX2_becomesSheet_18 rfl rfl ?_
    exact ex_zret dX2_becomesSheet_19 rfl (by decide) rfl rfl

set_option maxHeartbeats 2000000 in
theorem c_refusalOfOrder {T : tn_T} {X : gx_T} {P : gt_T} {Im : gi_T} {S : gs_T} (hG : gg_ok (T, X, P, Im, S)) {σ : qm_St} (hC : CG σ (T, X, P, Im, S)) (x : Int32) {bits : Nat} (hb : bits < 128) : ∃ σ', Ok qm_lay 6 mX8_refusalOfOrder [.ref 54, .int x, .int (nI bits)] σ (some (.int (gs_ro S x bits))) σ' ∧ (∀ s os, x = nI s → s < 4 → so S s bits = some os → ¬ S.1 s = -1 → OR σ' os) ∧ sm σ σ' 21 22 39 40 := by
  have hT : tn_ok T := hG.1
  have hX : gx_ok X := hG.2.1
  have hP : gt_ok P := hG.2.2.1
  have hI : gi_ok T (gx_n X) Im := hG.2.2.2.1
  have hS : gs_ok S := hG.2.2.2.2.1
  have hw : tn_w T < gx_n X := hG.2.2.2.2.2
  have hL := hT.1
  have hw6 := hT.2.1
  have hu := tn_u_lt hT
  have hX6 := hX.2.1
  have hP6 := hP.1
  by_cases c1 : tn_in x 0 3 = true
  · obtain ⟨s, hs, rfl⟩ := tn_in_of (n := 3) (by decide) c1
    have hs4 : s < 4 := by omega
    rw [gs_ro_t hs4]
    by_cases c2 : S.1 s = -1
    · rw [if_pos c2]
      refine ⟨σ, ?_, fun s2 os e h4 h5 h6 => absurd (show S.1 s2 = -1 by rw [← (nI_eq (by omega) (by omega)).mp e]; exact c2) h6, sm.rf _ _ _ _ _⟩
      refine Ok.of (ls := [some (.ref 54), some (.int (nI s)), some (.int (nI bits))]) (Nat.le_of_ble_eq_true rfl) rfl ?_
      refine ex_iload_n dX8_refusalOfOrder_0 rfl rfl ?_
      refine ex_callS (rest := []) dX8_refusalOfOrder_1 rfl qp_7_201 rfl rfl rfl (Nat.le_of_ble_eq_true rfl) (c_isSheet _ _) (Nat.le_of_ble_eq_true rfl) ?_
      show Ex qm_lay _ mX8_refusalOfOrder 4 [some (.ref 54), some (.int (nI s)), some (.int (nI bits))] [.int (b2i (tn_in (nI s) 0 3))] σ _ _
      refine ex_if_ne (q := 10) (q2 := 7) dX8_refusalOfOrder_4 rfl rfl (fun _ => ?_) (fun hh => absurd (b2i_n0.mpr (c1)) hh)
      refine ex_aload_n dX8_refusalOfOrder_10 rfl rfl ?_
      refine ex_getR (b := 40) dX8_refusalOfOrder_11 rfl qp_7_36 rfl rfl ?_
      refine ex_iload_n dX8_refusalOfOrder_14 rfl rfl ?_
      refine ex_callV (a := 40) (rest := []) dX8_refusalOfOrder_15 rfl qp_7_204 rfl rfl rfl rfl rfl (Nat.le_of_ble_eq_true rfl) (c_isMissing hS hC.2.2.2.2 (by omega)) (Nat.le_of_ble_eq_true rfl) ?_
      show Ex qm_lay _ mX8_refusalOfOrder 18 [some (.ref 54), some (.int (nI s)), some (.int (nI bits))] [.int (b2i (decide (S.1 s = -1)))] σ _ _
      refine ex_if_eq (q := 24) (q2 := 21) dX8_refusalOfOrder_18 rfl rfl (fun hh => absurd hh (b2i_n0.mpr (decide_eq_true c2))) (fun _ => ?_)
      refine ex_bipush (x := (-11)) dX8_refusalOfOrder_21 rfl rfl ?_
      exact ex_iret dX8_refusalOfOrder_23 rfl rfl rfl
    · rw [if_neg c2]
      obtain ⟨σ', hO, hor, hsm⟩ := c_becomesSheet hS hC.2.2.2.2 hs4 hb
      refine ⟨σ', ?_, fun s2 os e h4 h5 _ => hor os (by rw [(nI_eq (b := s2) (by omega) (by omega)).mp e]; exact h5), hsm⟩
      by_cases c3 : (so S s bits).isSome = true
      · rw [if_pos c3]
        refine Ok.of (ls := [some (.ref 54), some (.int (nI s)), some (.int (nI bits))]) (Nat.le_of_ble_eq_true rfl) rfl ?_
        refine ex_iload_n dX8_refusalOfOrder_0 rfl rfl ?_
        refine ex_callS (rest := []) dX8_refusalOfOrder_1 rfl qp_7_201 rfl rfl rfl (Nat.le_of_ble_eq_true rfl) (c_isSheet _ _) (Nat.le_of_ble_eq_true rfl) ?_
        show Ex qm_lay _ mX8_refusalOfOrder 4 [some (.ref 54), some (.int (nI s)), some (.int (nI bits))] [.int (b2i (tn_in (nI s) 0 3))] σ _ _
        refine ex_if_ne (q := 10) (q2 := 7) dX8_refusalOfOrder_4 rfl rfl (fun _ => ?_) (fun hh => absurd (b2i_n0.mpr (c1)) hh)
        refine ex_aload_n dX8_refusalOfOrder_10 rfl rfl ?_
        refine ex_getR (b := 40) dX8_refusalOfOrder_11 rfl qp_7_36 rfl rfl ?_
        refine ex_iload_n dX8_refusalOfOrder_14 rfl rfl ?_
        refine ex_callV (a := 40) (rest := []) dX8_refusalOfOrder_15 rfl qp_7_204 rfl rfl rfl rfl rfl (Nat.le_of_ble_eq_true rfl) (c_isMissing hS hC.2.2.2.2 (by omega)) (Nat.le_of_ble_eq_true rfl) ?_
        show Ex qm_lay _ mX8_refusalOfOrder 18 [some (.ref 54), some (.int (nI s)), some (.int (nI bits))] [.int (b2i (decide (S.1 s = -1)))] σ _ _
        refine ex_if_eq (q := 24) (q2 := 21) dX8_refusalOfOrder_18 rfl rfl (fun _ => ?_) (fun hh => absurd (b2i_0.mpr (decide_eq_false c2)) hh)
        refine ex_aload_n dX8_refusalOfOrder_24 rfl rfl ?_
        refine ex_getR (b := 48) dX8_refusalOfOrder_25 rfl qp_7_43 rfl rfl ?_
        refine ex_aload_n dX8_refusalOfOrder_28 rfl rfl ?_
        refine ex_getR (b := 40) dX8_refusalOfOrder_29 rfl qp_7_36 rfl rfl ?_
        refine ex_iload_n dX8_refusalOfOrder_32 rfl rfl ?_
        refine ex_iload_n dX8_refusalOfOrder_33 rfl rfl ?_
        refine ex_callV (a := 48) (rest := []) dX8_refusalOfOrder_34 rfl qp_7_207 rfl rfl rfl rfl rfl (Nat.le_of_ble_eq_true rfl) (hO) (Nat.le_of_ble_eq_true rfl) ?_
        show Ex qm_lay _ mX8_refusalOfOrder 37 [some (.ref 54), some (.int (nI s)), some (.int (nI bits))] [.int (b2i (so S s bits).isSome)] σ' _ _
        refine ex_if_eq (q := 44) (q2 := 40) dX8_refusalOfOrder_37 rfl rfl (fun hh => absurd hh (b2i_n0.mpr (c3))) (fun _ => ?_)
        refine ex_iconst (x := 0) dX8_refusalOfOrder_40 rfl rfl ?_
        refine ex_goto (q := 46) dX8_refusalOfOrder_41 rfl ?_
        exact ex_iret dX8_refusalOfOrder_46 rfl rfl rfl
      · rw [if_neg c3]
        refine Ok.of (ls := [some (.ref 54), some (.int (nI s)), some (.int (nI bits))]) (Nat.le_of_ble_eq_true rfl) rfl ?_
        refine ex_iload_n dX8_refusalOfOrder_0 rfl rfl ?_
        refine ex_callS (rest := []) dX8_refusalOfOrder_1 rfl qp_7_201 rfl rfl rfl (Nat.le_of_ble_eq_true rfl) (c_isSheet _ _) (Nat.le_of_ble_eq_true rfl) ?_
        show Ex qm_lay _ mX8_refusalOfOrder 4 [some (.ref 54), some (.int (nI s)), some (.int (nI bits))] [.int (b2i (tn_in (nI s) 0 3))] σ _ _
        refine ex_if_ne (q := 10) (q2 := 7) dX8_refusalOfOrder_4 rfl rfl (fun _ => ?_) (fun hh => absurd (b2i_n0.mpr (c1)) hh)
        refine ex_aload_n dX8_refusalOfOrder_10 rfl rfl ?_
        refine ex_getR (b := 40) dX8_refusalOfOrder_11 rfl qp_7_36 rfl rfl ?_
        refine ex_iload_n dX8_refusalOfOrder_14 rfl rfl ?_
        refine ex_callV (a := 40) (rest := []) dX8_refusalOfOrder_15 rfl qp_7_204 rfl rfl rfl rfl rfl (Nat.le_of_ble_eq_true rfl) (c_isMissing hS hC.2.2.2.2 (by omega)) (Nat.le_of_ble_eq_true rfl) ?_
        show Ex qm_lay _ mX8_refusalOfOrder 18 [some (.ref 54), some (.int (nI s)), some (.int (nI bits))] [.int (b2i (decide (S.1 s = -1)))] σ _ _
        refine ex_if_eq (q := 24) (q2 := 21) dX8_refusalOfOrder_18 rfl rfl (fun _ => ?_) (fun hh => absurd (b2i_0.mpr (decide_eq_false c2)) hh)
        refine ex_aload_n dX8_refusalOfOrder_24 rfl rfl ?_
        refine ex_getR (b := 48) dX8_refusalOfOrder_25 rfl qp_7_43 rfl rfl ?_
        refine ex_aload_n dX8_refusalOfOrder_28 rfl rfl ?_
        refine ex_getR (b := 40) dX8_refusalOfOrder_29 rfl qp_7_36 rfl rfl ?_
        refine ex_iload_n dX8_refusalOfOrder_32 rfl rfl ?_
        refine ex_iload_n dX8_refusalOfOrder_33 rfl rfl ?_
        refine ex_callV (a := 48) (rest := []) dX8_refusalOfOrder_34 rfl qp_7_207 rfl rfl rfl rfl rfl (Nat.le_of_ble_eq_true rfl) (hO) (Nat.le_of_ble_eq_true rfl) ?_
        show Ex qm_lay _ mX8_refusalOfOrder 37 [some (.ref 54), some (.int (nI s)), some (.int (nI bits))] [.int (b2i (so S s bits).isSome)] σ' _ _
        refine ex_if_eq (q := 44) (q2 := 40) dX8_refusalOfOrder_37 rfl rfl (fun _ => ?_) (fun hh => absurd (b2i_0.mpr (by simpa using c3)) hh)
        refine ex_bipush (x := (-2)) dX8_refusalOfOrder_44 rfl rfl ?_
        exact ex_iret dX8_refusalOfOrder_46 rfl rfl rfl
  · have e1 : gs_ro S x bits = -2 := if_neg c1
    rw [e1]
    refine ⟨σ, ?_, fun s2 os e h4 h5 h6 => absurd (by rw [e]; exact tn_in_t (x := 0) (y := 3) (Nat.zero_le _) (by omega) (by decide)) c1, sm.rf _ _ _ _ _⟩
    refine Ok.of (ls := [some (.ref 54), some (.int x), some (.int (nI bits))]) (Nat.le_of_ble_eq_true rfl) rfl ?_
    refine ex_iload_n dX8_refusalOfOrder_0 rfl rfl ?_
    refine ex_callS (rest := []) dX8_refusalOfOrder_1 rfl qp_7_201 rfl rfl rfl (Nat.le_of_ble_eq_true rfl) (c_isSheet _ _) (Nat.le_of_ble_eq_true rfl) ?_
    show Ex qm_lay _ mX8_refusalOfOrder 4 [some (.ref 54), some (.int x), some (.int (nI bits))] [.int (b2i (tn_in x 0 3))] σ _ _
    refine ex_if_ne (q := 10) (q2 := 7) dX8_refusalOfOrder_4 rfl rfl (fun hh => absurd hh (fun zz => zz (b2i_0.mpr (by simpa using c1)))) (fun _ => ?_)
    refine ex_bipush (x := (-2)) dX8_refusalOfOrder_7 rfl rfl ?_
    exact ex_iret dX8_refusalOfOrder_9 rfl rfl rfl

theorem bit_lt {u L j : Nat} (hu : u < 2 ^ L) (h : u.testBit j = true) : j < L := by
  rcases Nat.lt_or_ge j L with q | q
  · exact q
  · rw [Nat.testBit_lt_two_pow (Nat.lt_of_lt_of_le hu (Nat.pow_le_pow_right (by omega) q))] at h; cases h
theorem bit_ext7 {a b : Nat} (ha : a < 128) (hb : b < 128) (h : ∀ j, j < 7 → a.testBit j = b.testBit j) : a = b := by
  apply Nat.eq_of_testBit_eq
  intro j
  rcases Nat.lt_or_ge j 7 with q | q
  · exact h j q
  · rw [Nat.testBit_lt_two_pow (Nat.lt_of_lt_of_le ha (Nat.pow_le_pow_right (n := 2) (i := 7) (by omega) q)), Nat.testBit_lt_two_pow (Nat.lt_of_lt_of_le hb (Nat.pow_le_pow_right (n := 2) (i := 7) (by omega) q))]
theorem bits_left {st bits left : Nat} (h1 : st < 128) (h2 : bits < 128) (h3 : left < 128) (hle : ∀ j, j < 7 → left.testBit j = (bits.testBit j && !st.testBit j)) (hsub : ∀ j, j < 7 → st.testBit j = true → bits.testBit j = true) : st = bits ↔ left = 0 := by
  constructor
  · intro e
    subst e
    exact bit_ext7 h3 (by decide) (fun j hj => by rw [hle j hj, Nat.zero_testBit]; cases st.testBit j <;> rfl)
  · intro e
    subst e
    refine bit_ext7 h1 h2 (fun j hj => ?_)
    have a := hle j hj
    have b := hsub j hj
    rw [Nat.zero_testBit] at a
    cases hz : st.testBit j with
    | true => exact (b hz).symm
    | false => rw [hz, Bool.not_false, Bool.and_true] at a; exact a
set_option maxHeartbeats 2000000 in
theorem l_readsRow {T : tn_T} (hT : tn_ok T) {S : gs_T} (hS : gs_ok S) {s bits : Nat} (hs4 : s < 4) (hb : bits < 2 ^ tn_L T) : ∀ (r k st left : Nat) (x : Option Value) (acc : List Nat) (σ : qm_St), k + r = S.2.1 s → left < 128 → st < 128 → (∀ j, j < 7 → left.testBit j = (bits.testBit j && !st.testBit j)) → (∀ j, j < 7 → st.testBit j = true → bits.testBit j = true) → acc.length + tn_pc left ≤ 7 → RR σ acc → MR σ T → SM σ S → ∃ σ', Ex qm_lay 6 mX9_readsRow 35 [some (.ref 55), some (.int (nI s)), some (.int (nI bits)), some (.int (nI st)), some (.int (nI k)), x] [] σ (some (.int (rd_v (rd (S.2.2 s) r k left)))) σ' ∧ (∀ p, rd (S.2.2 s) r k left = some p → RR σ' (acc ++ p.1)) ∧ sm σ σ' 44 45 60 61 := by
  have hL := hT.1
  have h128 : 2 ^ tn_L T ≤ 128 := Nat.pow_le_pow_right (n := 2) (by omega) hL
  have h40 := (hS s hs4).2
  intro r
  induction r with
  | zero =>
    intro k st left x acc σ hk hl7 hst hle hsub hln hr h hM
    refine ⟨σ, ?_, fun p hp => by rw [rd] at hp; rw [← Option.some.inj hp, List.append_nil]; exact hr, sm.rf _ _ _ _ _⟩
    have key : st = bits ↔ left = 0 := bits_left hst (by omega) hl7 hle hsub
    have ev : rd_v (rd (S.2.2 s) 0 k left) = if left = 0 then 0 else -2 := rfl
    rw [ev]
    by_cases c1 : left = 0
    · rw [if_pos c1]
      have hsb := key.mpr c1
      refine ex_iload dX9_readsRow_35 rfl rfl ?_
      refine ex_aload_n dX9_readsRow_37 rfl rfl ?_
      refine ex_getR (b := 66) dX9_readsRow_38 rfl qp_8_40 rfl rfl ?_
      refine ex_iload_n dX9_readsRow_41 rfl rfl ?_
      refine ex_iaload (k := s) (x := nI (S.2.1 s)) dX9_readsRow_42 rfl rfl (rfl) (by omega) (by decide) ((hM s hs4).2.1) ?_
      refine ex_icmp_ge (q := 125) (q2 := 46) dX9_readsRow_43 rfl rfl (fun _ => ?_) (fun hh => absurd (nI_le (a := (S.2.1 s)) (b := k) (by omega) (by omega)) hh)
      refine ex_iload_n dX9_readsRow_125 rfl rfl ?_
      refine ex_iload_n dX9_readsRow_126 rfl rfl ?_
      refine ex_icmp_ne (q := 134) (q2 := 130) dX9_readsRow_127 rfl rfl (fun hh => absurd hh (fun zz => zz (congrArg nI (show st = bits by omega)))) (fun _ => ?_)
      refine ex_iconst (x := 0) dX9_readsRow_130 rfl rfl ?_
      refine ex_goto (q := 136) dX9_readsRow_131 rfl ?_
      exact ex_iret dX9_readsRow_136 rfl rfl rfl
    · rw [if_neg c1]
      have hsb : ¬ st = bits := fun z => c1 (key.mp z)
      refine ex_iload dX9_readsRow_35 rfl rfl ?_
      refine ex_aload_n dX9_readsRow_37 rfl rfl ?_
      refine ex_getR (b := 66) dX9_readsRow_38 rfl qp_8_40 rfl rfl ?_
      refine ex_iload_n dX9_readsRow_41 rfl rfl ?_
      refine ex_iaload (k := s) (x := nI (S.2.1 s)) dX9_readsRow_42 rfl rfl (rfl) (by omega) (by decide) ((hM s hs4).2.1) ?_
      refine ex_icmp_ge (q := 125) (q2 := 46) dX9_readsRow_43 rfl rfl (fun _ => ?_) (fun hh => absurd (nI_le (a := (S.2.1 s)) (b := k) (by omega) (by omega)) hh)
      refine ex_iload_n dX9_readsRow_125 rfl rfl ?_
      refine ex_iload_n dX9_readsRow_126 rfl rfl ?_
      refine ex_icmp_ne (q := 134) (q2 := 130) dX9_readsRow_127 rfl rfl (fun _ => ?_) (fun hh => absurd (fun zz => absurd ((nI_eq (a := st) (b := bits) (by omega) (by omega)).mp zz) (by omega)) hh)
      refine ex_bipush (x := (-2)) dX9_readsRow_134 rfl rfl ?_
      exact ex_iret dX9_readsRow_136 rfl rfl rfl
  | succ r ih =>
    intro k st left x acc σ hk hl7 hst hle hsub hln hr h hM
    by_cases c1 : rd_c (S.2.2 s k) left = true
    · obtain ⟨j, hj, e, hb2⟩ := rd_c_of c1
      have hbs := hle j hj
      rw [hb2] at hbs
      have hbj : bits.testBit j = true := by cases hz : bits.testBit j with
        | true => rfl
        | false => rw [hz] at hbs; cases hbs
      have hsj : st.testBit j = false := by cases hz : st.testBit j with
        | true => rw [hz, Bool.not_true, Bool.and_false] at hbs; cases hbs
        | false => rfl
      have hjL : j < tn_L T := bit_lt hb hbj
      have hpc := tn_pc_cl j hj left hl7 hb2
      have ha7 : acc.length < 7 := by omega
      have hg : sm σ (qm_wI (qm_wF σ 60 acc.length (nI j)) 44 (nI (acc.length + 1))) 44 45 60 61 := ((sm.rf σ 44 45 60 61).wF _ (by omega)).wI _ (by omega)
      have e1 : rd (S.2.2 s) (r + 1) k left = (rd (S.2.2 s) r (k + 1) (tn_cl left j)).map (fun p => (j :: p.1, p.2)) := by rw [rd, if_pos c1, e, nI_clamp (by omega)]
      have hst2 : st ||| 2 ^ j < 128 := Nat.or_lt_two_pow (n := 7) hst (Nat.pow_lt_pow_right (by omega) hj)
      obtain ⟨σ', hE, hp, hs⟩ := ih (k + 1) (st ||| 2 ^ j) (tn_cl left j) (some (.int (nI j))) (acc ++ [j]) _ (by omega) (tn_cl_lt hl7) hst2 (fun i hi => by rw [tn_cl_tb j hj i hi left hl7, hle i hi, Nat.testBit_or, tb_2]; cases bits.testBit i <;> cases st.testBit i <;> simp [eq_comm]) (fun i hi hz => by
        rw [Nat.testBit_or, tb_2, Bool.or_eq_true] at hz
        rcases hz with hz | hz
        · exact hsub i hi hz
        · rw [← of_decide_eq_true hz]; exact hbj) (by rw [List.length_append]; show acc.length + 1 + _ ≤ 7; omega) (hr.app ha7 j) (h.sm hg (by omega) (by omega)) (hM.sm hg (by omega))
      have ev : rd_v (rd (S.2.2 s) (r + 1) k left) = rd_v (rd (S.2.2 s) r (k + 1) (tn_cl left j)) := by rw [e1]; cases rd (S.2.2 s) r (k + 1) (tn_cl left j) <;> rfl
      rw [ev]
      refine ⟨σ', ?_, fun p hp2 => ?_, hg.tr hs⟩
      · refine ex_iload dX9_readsRow_35 rfl rfl ?_
        refine ex_aload_n dX9_readsRow_37 rfl rfl ?_
        refine ex_getR (b := 66) dX9_readsRow_38 rfl qp_8_40 rfl rfl ?_
        refine ex_iload_n dX9_readsRow_41 rfl rfl ?_
        refine ex_iaload (k := s) (x := nI (S.2.1 s)) dX9_readsRow_42 rfl rfl (rfl) (by omega) (by decide) ((hM s hs4).2.1) ?_
        refine ex_icmp_ge (q := 125) (q2 := 46) dX9_readsRow_43 rfl rfl (fun hh => absurd hh (nI_ge (a := k) (b := (S.2.1 s)) (by omega) (by omega))) (fun _ => ?_)
        refine ex_aload_n dX9_readsRow_46 rfl rfl ?_
        refine ex_getR (b := 67) dX9_readsRow_47 rfl qp_8_43 rfl rfl ?_
        refine ex_bipush (x := 40) dX9_readsRow_50 rfl rfl ?_
        refine ex_iload_n dX9_readsRow_52 rfl rfl ?_
        refine ex_imul (z := nI (40 * s)) dX9_readsRow_53 rfl (pk_mul 40 s) ?_
        refine ex_iload dX9_readsRow_54 rfl rfl ?_
        refine ex_iadd (z := nI ((40 * s) + k)) dX9_readsRow_56 rfl (nI_add (40 * s) k) ?_
        refine ex_iaload (k := (40 * s) + k) (x := nI j) dX9_readsRow_57 rfl rfl (rfl) (by omega) (by decide) ((by rw [← e]; exact (hM s hs4).2.2 k (by omega))) ?_
        refine ex_istore (ls' := [some (.ref 55), some (.int (nI s)), some (.int (nI bits)), some (.int (nI st)), some (.int (nI k)), some (.int (nI j))]) dX9_readsRow_58 rfl (Nat.le_of_ble_eq_true rfl) rfl rfl ?_
        refine ex_aload_n dX9_readsRow_60 rfl rfl ?_
        refine ex_iload dX9_readsRow_61 rfl rfl ?_
        refine ex_callV (a := 55) (rest := []) dX9_readsRow_63 rfl qp_8_85 rfl rfl rfl rfl rfl (Nat.le_of_ble_eq_true rfl) (k_isLot_n hT h (by omega)) (Nat.le_of_ble_eq_true rfl) ?_
        show Ex qm_lay _ mX9_readsRow 66 [some (.ref 55), some (.int (nI s)), some (.int (nI bits)), some (.int (nI st)), some (.int (nI k)), some (.int (nI j))] [.int 1] σ _ _
        refine ex_if_eq (q := 88) (q2 := 69) dX9_readsRow_66 rfl rfl (fun hh => absurd hh (by decide)) (fun _ => ?_)
        refine ex_iload_n dX9_readsRow_69 rfl rfl ?_
        refine ex_iload dX9_readsRow_70 rfl rfl ?_
        refine ex_ishr (z := (nI bits) >>> ((nI j) &&& 31)) dX9_readsRow_72 rfl (rfl) ?_
        refine ex_iconst (x := 1) dX9_readsRow_73 rfl rfl ?_
        refine ex_iand (z := b2i (Nat.testBit bits j)) dX9_readsRow_74 rfl (nI_bit (by omega) (by omega)) ?_
        refine ex_if_eq (q := 88) (q2 := 78) dX9_readsRow_75 rfl rfl (fun hh => absurd hh (b2i_n0.mpr (hbj))) (fun _ => ?_)
        refine ex_iload_n dX9_readsRow_78 rfl rfl ?_
        refine ex_iload dX9_readsRow_79 rfl rfl ?_
        refine ex_ishr (z := (nI st) >>> ((nI j) &&& 31)) dX9_readsRow_81 rfl (rfl) ?_
        refine ex_iconst (x := 1) dX9_readsRow_82 rfl rfl ?_
        refine ex_iand (z := b2i (Nat.testBit st j)) dX9_readsRow_83 rfl (nI_bit (by omega) (by omega)) ?_
        refine ex_iconst (x := 1) dX9_readsRow_84 rfl rfl ?_
        refine ex_icmp_ne (q := 91) (q2 := 88) dX9_readsRow_85 rfl rfl (fun _ => ?_) (fun hh => absurd (by rw [hsj]; decide) hh)
        refine ex_iload_n dX9_readsRow_91 rfl rfl ?_
        refine ex_iconst (x := 1) dX9_readsRow_92 rfl rfl ?_
        refine ex_iload dX9_readsRow_93 rfl rfl ?_
        refine ex_ishl (z := nI (2 ^ j)) dX9_readsRow_95 rfl (nI_1shl (by omega)) ?_
        refine ex_ior (z := nI (st ||| (2 ^ j))) dX9_readsRow_96 rfl (nI_or _ _) ?_
        refine ex_istore_n (ls' := [some (.ref 55), some (.int (nI s)), some (.int (nI bits)), some (.int (nI (st ||| (2 ^ j)))), some (.int (nI k)), some (.int (nI j))]) dX9_readsRow_97 rfl (Nat.le_of_ble_eq_true rfl) rfl rfl ?_
        refine ex_aload_n dX9_readsRow_98 rfl rfl ?_
        refine ex_getR (b := 74) dX9_readsRow_99 rfl qp_8_64 rfl rfl ?_
        refine ex_aload_n dX9_readsRow_102 rfl rfl ?_
        refine ex_getI (s := 44) (x := nI acc.length) dX9_readsRow_103 rfl qp_8_235 rfl rfl (hr.1) ?_
        refine ex_iload dX9_readsRow_106 rfl rfl ?_
        refine ex_iastore (k := acc.length) (σ' := qm_wF σ 60 acc.length (nI j)) dX9_readsRow_108 rfl rfl (rfl) (by omega) (by decide) rfl ?_
        refine ex_aload_n dX9_readsRow_109 rfl rfl ?_
        refine ex_dup dX9_readsRow_110 rfl rfl ?_
        refine ex_getI (s := 44) (x := nI acc.length) dX9_readsRow_111 rfl qp_8_235 rfl rfl (hr.1) ?_
        refine ex_iconst (x := 1) dX9_readsRow_114 rfl rfl ?_
        refine ex_iadd (z := nI (acc.length + 1)) dX9_readsRow_115 rfl (nI_add acc.length 1) ?_
        refine ex_put (σ' := qm_wI (qm_wF σ 60 acc.length (nI j)) 44 (nI (acc.length + 1))) dX9_readsRow_116 rfl qp_8_235 rfl rfl (Or.inl rfl) rfl ?_
        refine ex_iinc (y := nI (k + 1)) (ls' := [some (.ref 55), some (.int (nI s)), some (.int (nI bits)), some (.int (nI (st ||| (2 ^ j)))), some (.int (nI (k + 1))), some (.int (nI j))]) dX9_readsRow_119 rfl rfl rfl (nI_add k 1) rfl ?_
        refine ex_goto (q := 35) dX9_readsRow_122 rfl ?_
        exact hE
      · rw [e1] at hp2
        cases e3 : rd (S.2.2 s) r (k + 1) (tn_cl left j) with
        | none => rw [e3] at hp2; cases hp2
        | some q =>
          rw [e3] at hp2
          have e4 := Option.some.inj hp2
          subst e4
          have := hp q e3
          rw [List.append_assoc] at this
          exact this
    · have e1 : rd (S.2.2 s) (r + 1) k left = none := by rw [rd, if_neg c1]
      refine ⟨σ, ?_, (fun p hp => by rw [e1] at hp; cases hp), sm.rf _ _ _ _ _⟩
      rw [e1]
      by_cases c2 : tn_has T (S.2.2 s k) = true
      · obtain ⟨j, hj, e⟩ := tn_has_of hT c2
        have hj7 : j < 7 := by omega
        rw [e, rd_c_nI hj7, hle j hj7] at c1
        refine ex_iload dX9_readsRow_35 rfl rfl ?_
        refine ex_aload_n dX9_readsRow_37 rfl rfl ?_
        refine ex_getR (b := 66) dX9_readsRow_38 rfl qp_8_40 rfl rfl ?_
        refine ex_iload_n dX9_readsRow_41 rfl rfl ?_
        refine ex_iaload (k := s) (x := nI (S.2.1 s)) dX9_readsRow_42 rfl rfl (rfl) (by omega) (by decide) ((hM s hs4).2.1) ?_
        refine ex_icmp_ge (q := 125) (q2 := 46) dX9_readsRow_43 rfl rfl (fun hh => absurd hh (nI_ge (a := k) (b := (S.2.1 s)) (by omega) (by omega))) (fun _ => ?_)
        refine ex_aload_n dX9_readsRow_46 rfl rfl ?_
        refine ex_getR (b := 67) dX9_readsRow_47 rfl qp_8_43 rfl rfl ?_
        refine ex_bipush (x := 40) dX9_readsRow_50 rfl rfl ?_
        refine ex_iload_n dX9_readsRow_52 rfl rfl ?_
        refine ex_imul (z := nI (40 * s)) dX9_readsRow_53 rfl (pk_mul 40 s) ?_
        refine ex_iload dX9_readsRow_54 rfl rfl ?_
        refine ex_iadd (z := nI ((40 * s) + k)) dX9_readsRow_56 rfl (nI_add (40 * s) k) ?_
        refine ex_iaload (k := (40 * s) + k) (x := nI j) dX9_readsRow_57 rfl rfl (rfl) (by omega) (by decide) ((by rw [← e]; exact (hM s hs4).2.2 k (by omega))) ?_
        refine ex_istore (ls' := [some (.ref 55), some (.int (nI s)), some (.int (nI bits)), some (.int (nI st)), some (.int (nI k)), some (.int (nI j))]) dX9_readsRow_58 rfl (Nat.le_of_ble_eq_true rfl) rfl rfl ?_
        refine ex_aload_n dX9_readsRow_60 rfl rfl ?_
        refine ex_iload dX9_readsRow_61 rfl rfl ?_
        refine ex_callV (a := 55) (rest := []) dX9_readsRow_63 rfl qp_8_85 rfl rfl rfl rfl rfl (Nat.le_of_ble_eq_true rfl) (k_isLot_n hT h (by omega)) (Nat.le_of_ble_eq_true rfl) ?_
        show Ex qm_lay _ mX9_readsRow 66 [some (.ref 55), some (.int (nI s)), some (.int (nI bits)), some (.int (nI st)), some (.int (nI k)), some (.int (nI j))] [.int 1] σ _ _
        refine ex_if_eq (q := 88) (q2 := 69) dX9_readsRow_66 rfl rfl (fun hh => absurd hh (by decide)) (fun _ => ?_)
        refine ex_iload_n dX9_readsRow_69 rfl rfl ?_
        refine ex_iload dX9_readsRow_70 rfl rfl ?_
        refine ex_ishr (z := (nI bits) >>> ((nI j) &&& 31)) dX9_readsRow_72 rfl (rfl) ?_
        refine ex_iconst (x := 1) dX9_readsRow_73 rfl rfl ?_
        refine ex_iand (z := b2i (Nat.testBit bits j)) dX9_readsRow_74 rfl (nI_bit (by omega) (by omega)) ?_
        refine ex_if_eq (q := 88) (q2 := 78) dX9_readsRow_75 rfl rfl (fun h75 => ?_) (fun h75 => ?_)
        · have hb75 : (Nat.testBit bits j) = false := b2i_0.mp h75
          refine ex_bipush (x := (-2)) dX9_readsRow_88 rfl rfl ?_
          exact ex_iret dX9_readsRow_90 rfl rfl rfl
        · have hb75 : (Nat.testBit bits j) = true := b2i_n0.mp h75
          refine ex_iload_n dX9_readsRow_78 rfl rfl ?_
          refine ex_iload dX9_readsRow_79 rfl rfl ?_
          refine ex_ishr (z := (nI st) >>> ((nI j) &&& 31)) dX9_readsRow_81 rfl (rfl) ?_
          refine ex_iconst (x := 1) dX9_readsRow_82 rfl rfl ?_
          refine ex_iand (z := b2i (Nat.testBit st j)) dX9_readsRow_83 rfl (nI_bit (by omega) (by omega)) ?_
          refine ex_iconst (x := 1) dX9_readsRow_84 rfl rfl ?_
          refine ex_icmp_ne (q := 91) (q2 := 88) dX9_readsRow_85 rfl rfl (fun h85 => ?_) (fun h85 => ?_)
          · exact absurd (by rw [hb75, (by cases hz : st.testBit j with | true => rw [hz] at h85; exact absurd rfl h85 | false => rfl : st.testBit j = false)]; rfl) c1
          · refine ex_bipush (x := (-2)) dX9_readsRow_88 rfl rfl ?_
            exact ex_iret dX9_readsRow_90 rfl rfl rfl
      · refine ex_iload dX9_readsRow_35 rfl rfl ?_
        refine ex_aload_n dX9_readsRow_37 rfl rfl ?_
        refine ex_getR (b := 66) dX9_readsRow_38 rfl qp_8_40 rfl rfl ?_
        refine ex_iload_n dX9_readsRow_41 rfl rfl ?_
        refine ex_iaload (k := s) (x := nI (S.2.1 s)) dX9_readsRow_42 rfl rfl (rfl) (by omega) (by decide) ((hM s hs4).2.1) ?_
        refine ex_icmp_ge (q := 125) (q2 := 46) dX9_readsRow_43 rfl rfl (fun hh => absurd hh (nI_ge (a := k) (b := (S.2.1 s)) (by omega) (by omega))) (fun _ => ?_)
        refine ex_aload_n dX9_readsRow_46 rfl rfl ?_
        refine ex_getR (b := 67) dX9_readsRow_47 rfl qp_8_43 rfl rfl ?_
        refine ex_bipush (x := 40) dX9_readsRow_50 rfl rfl ?_
        refine ex_iload_n dX9_readsRow_52 rfl rfl ?_
        refine ex_imul (z := nI (40 * s)) dX9_readsRow_53 rfl (pk_mul 40 s) ?_
        refine ex_iload dX9_readsRow_54 rfl rfl ?_
        refine ex_iadd (z := nI ((40 * s) + k)) dX9_readsRow_56 rfl (nI_add (40 * s) k) ?_
        refine ex_iaload (k := (40 * s) + k) (x := S.2.2 s k) dX9_readsRow_57 rfl rfl (rfl) (by omega) (by decide) ((hM s hs4).2.2 k (by omega)) ?_
        refine ex_istore (ls' := [some (.ref 55), some (.int (nI s)), some (.int (nI bits)), some (.int (nI st)), some (.int (nI k)), some (.int (S.2.2 s k))]) dX9_readsRow_58 rfl (Nat.le_of_ble_eq_true rfl) rfl rfl ?_
        refine ex_aload_n dX9_readsRow_60 rfl rfl ?_
        refine ex_iload dX9_readsRow_61 rfl rfl ?_
        refine ex_callV (a := 55) (rest := []) dX9_readsRow_63 rfl qp_8_85 rfl rfl rfl rfl rfl (Nat.le_of_ble_eq_true rfl) (k_isLot hT h (S.2.2 s k)) (Nat.le_of_ble_eq_true rfl) ?_
        show Ex qm_lay _ mX9_readsRow 66 [some (.ref 55), some (.int (nI s)), some (.int (nI bits)), some (.int (nI st)), some (.int (nI k)), some (.int (S.2.2 s k))] [.int (b2i (tn_has T (S.2.2 s k)))] σ _ _
        refine ex_if_eq (q := 88) (q2 := 69) dX9_readsRow_66 rfl rfl (fun _ => ?_) (fun hh => absurd (b2i_0.mpr (by simpa using c2)) hh)
        refine ex_bipush (x := (-2)) dX9_readsRow_88 rfl rfl ?_
        exact ex_iret dX9_readsRow_90 rfl rfl rfl

set_option maxHeartbeats 2000000 in
theorem k_readsRow {T : tn_T} {X : gx_T} {P : gt_T} {Im : gi_T} {S : gs_T} (hG : gg_ok (T, X, P, Im, S)) {σ : qm_St} (hM : MG σ (T, X, P, Im, S)) (x : Int32) {bits : Nat} (hb : bits < 2 ^ tn_L T) : ∃ σ', Ok qm_lay 6 mX9_readsRow [.ref 55, .int x, .int (nI bits)] σ (some (.int (gs_ro S x bits))) σ' ∧ (∀ s os, x = nI s → s < 4 → so S s bits = some os → ¬ S.1 s = -1 → RR σ' os) ∧ sm σ σ' 44 45 60 61 := by
  have hT : tn_ok T := hG.1
  have hX : gx_ok X := hG.2.1
  have hP : gt_ok P := hG.2.2.1
  have hI : gi_ok T (gx_n X) Im := hG.2.2.2.1
  have hS : gs_ok S := hG.2.2.2.2.1
  have hw : tn_w T < gx_n X := hG.2.2.2.2.2
  have hL := hT.1
  have hw6 := hT.2.1
  have hu := tn_u_lt hT
  have hX6 := hX.2.1
  have hP6 := hP.1
  have h : MR σ T := hM.1
  have h128 : 2 ^ tn_L T ≤ 128 := Nat.pow_le_pow_right (n := 2) (by omega) hL
  have hb7 : bits < 128 := by omega
  by_cases c1 : tn_in x 0 3 = true
  · obtain ⟨s, hs, rfl⟩ := tn_in_of (n := 3) (by decide) c1
    have hs4 : s < 4 := by omega
    rw [gs_ro_t hs4]
    by_cases c2 : S.1 s = -1
    · rw [if_pos c2]
      refine ⟨σ, ?_, fun s2 os e h4 h5 h6 => absurd (show S.1 s2 = -1 by rw [← (nI_eq (by omega) (by omega)).mp e]; exact c2) h6, sm.rf _ _ _ _ _⟩
      refine Ok.of (ls := [some (.ref 55), some (.int (nI s)), some (.int (nI bits)), none, none, none]) (Nat.le_of_ble_eq_true rfl) rfl ?_
      refine ex_iload_n dX9_readsRow_0 rfl rfl ?_
      refine ex_iconst (x := 0) dX9_readsRow_1 rfl rfl ?_
      refine ex_iconst (x := 3) dX9_readsRow_2 rfl rfl ?_
      refine ex_callS (rest := []) dX9_readsRow_3 rfl qp_8_81 rfl rfl rfl (Nat.le_of_ble_eq_true rfl) (k_in _ _ _ _) (Nat.le_of_ble_eq_true rfl) ?_
      show Ex qm_lay _ mX9_readsRow 6 [some (.ref 55), some (.int (nI s)), some (.int (nI bits)), none, none, none] [.int (b2i (tn_in (nI s) 0 3))] σ _ _
      refine ex_if_ne (q := 12) (q2 := 9) dX9_readsRow_6 rfl rfl (fun _ => ?_) (fun hh => absurd (b2i_n0.mpr (c1)) hh)
      refine ex_aload_n dX9_readsRow_12 rfl rfl ?_
      refine ex_getR (b := 65) dX9_readsRow_13 rfl qp_8_37 rfl rfl ?_
      refine ex_iload_n dX9_readsRow_16 rfl rfl ?_
      refine ex_iaload (k := s) (x := S.1 s) dX9_readsRow_17 rfl rfl (rfl) (by omega) (by decide) ((hM.2.2.2.2.1 s (by omega)).1) ?_
      refine ex_iconst (x := (-1)) dX9_readsRow_18 rfl rfl ?_
      refine ex_icmp_ne (q := 25) (q2 := 22) dX9_readsRow_19 rfl rfl (fun hh => absurd hh (fun zz => zz c2)) (fun _ => ?_)
      refine ex_bipush (x := (-11)) dX9_readsRow_22 rfl rfl ?_
      exact ex_iret dX9_readsRow_24 rfl rfl rfl
    · rw [if_neg c2, ← so_rd hb7]
      have hg : sm σ (qm_wI σ 44 0) 44 45 60 61 := (sm.rf σ 44 45 60 61).wI _ (by omega)
      obtain ⟨σ', hE, hp, hsm⟩ := l_readsRow hT hS hs4 hb (S.2.1 s) 0 0 bits none [] _ (by omega) hb7 (by decide) (fun j hj => by rw [Nat.zero_testBit, Bool.not_false, Bool.and_true]) (fun j hj z => by rw [Nat.zero_testBit] at z; cases z) (by have := tn_pc_7 bits hb7; show 0 + _ ≤ 7; omega) (RR.nil (σ := σ)) (h.sm hg (by omega) (by omega)) (hM.2.2.2.2.1.sm hg (by omega))
      refine ⟨σ', ?_, fun s2 os e h4 h5 _ => ?_, hg.tr hsm⟩
      · refine Ok.of (ls := [some (.ref 55), some (.int (nI s)), some (.int (nI bits)), none, none, none]) (Nat.le_of_ble_eq_true rfl) rfl ?_
        refine ex_iload_n dX9_readsRow_0 rfl rfl ?_
        refine ex_iconst (x := 0) dX9_readsRow_1 rfl rfl ?_
        refine ex_iconst (x := 3) dX9_readsRow_2 rfl rfl ?_
        refine ex_callS (rest := []) dX9_readsRow_3 rfl qp_8_81 rfl rfl rfl (Nat.le_of_ble_eq_true rfl) (k_in _ _ _ _) (Nat.le_of_ble_eq_true rfl) ?_
        show Ex qm_lay _ mX9_readsRow 6 [some (.ref 55), some (.int (nI s)), some (.int (nI bits)), none, none, none] [.int (b2i (tn_in (nI s) 0 3))] σ _ _
        refine ex_if_ne (q := 12) (q2 := 9) dX9_readsRow_6 rfl rfl (fun _ => ?_) (fun hh => absurd (b2i_n0.mpr (c1)) hh)
        refine ex_aload_n dX9_readsRow_12 rfl rfl ?_
        refine ex_getR (b := 65) dX9_readsRow_13 rfl qp_8_37 rfl rfl ?_
        refine ex_iload_n dX9_readsRow_16 rfl rfl ?_
        refine ex_iaload (k := s) (x := S.1 s) dX9_readsRow_17 rfl rfl (rfl) (by omega) (by decide) ((hM.2.2.2.2.1 s (by omega)).1) ?_
        refine ex_iconst (x := (-1)) dX9_readsRow_18 rfl rfl ?_
        refine ex_icmp_ne (q := 25) (q2 := 22) dX9_readsRow_19 rfl rfl (fun _ => ?_) (fun hh => absurd (c2) hh)
        refine ex_iconst (x := 0) dX9_readsRow_25 rfl rfl ?_
        refine ex_istore_n (ls' := [some (.ref 55), some (.int (nI s)), some (.int (nI bits)), some (.int 0), none, none]) dX9_readsRow_26 rfl (Nat.le_of_ble_eq_true rfl) rfl rfl ?_
        refine ex_aload_n dX9_readsRow_27 rfl rfl ?_
        refine ex_iconst (x := 0) dX9_readsRow_28 rfl rfl ?_
        refine ex_put (σ' := qm_wI σ 44 0) dX9_readsRow_29 rfl qp_8_235 rfl rfl (Or.inl rfl) rfl ?_
        refine ex_iconst (x := 0) dX9_readsRow_32 rfl rfl ?_
        refine ex_istore (ls' := [some (.ref 55), some (.int (nI s)), some (.int (nI bits)), some (.int 0), some (.int 0), none]) dX9_readsRow_33 rfl (Nat.le_of_ble_eq_true rfl) rfl rfl ?_
        exact hE
      · have e2 : s = s2 := (nI_eq (by omega) (by omega)).mp e
        subst e2
        have := hp _ (so_of hb7 h5).2.2.2
        exact this
  · have e1 : gs_ro S x bits = -2 := if_neg c1
    rw [e1]
    refine ⟨σ, ?_, fun s2 os e h4 h5 h6 => absurd (by rw [e]; exact tn_in_t (x := 0) (y := 3) (Nat.zero_le _) (by omega) (by decide)) c1, sm.rf _ _ _ _ _⟩
    refine Ok.of (ls := [some (.ref 55), some (.int x), some (.int (nI bits)), none, none, none]) (Nat.le_of_ble_eq_true rfl) rfl ?_
    refine ex_iload_n dX9_readsRow_0 rfl rfl ?_
    refine ex_iconst (x := 0) dX9_readsRow_1 rfl rfl ?_
    refine ex_iconst (x := 3) dX9_readsRow_2 rfl rfl ?_
    refine ex_callS (rest := []) dX9_readsRow_3 rfl qp_8_81 rfl rfl rfl (Nat.le_of_ble_eq_true rfl) (k_in _ _ _ _) (Nat.le_of_ble_eq_true rfl) ?_
    show Ex qm_lay _ mX9_readsRow 6 [some (.ref 55), some (.int x), some (.int (nI bits)), none, none, none] [.int (b2i (tn_in x 0 3))] σ _ _
    refine ex_if_ne (q := 12) (q2 := 9) dX9_readsRow_6 rfl rfl (fun hh => absurd hh (fun zz => zz (b2i_0.mpr (by simpa using c1)))) (fun _ => ?_)
    refine ex_bipush (x := (-2)) dX9_readsRow_9 rfl rfl ?_
    exact ex_iret dX9_readsRow_11 rfl rfl rfl

