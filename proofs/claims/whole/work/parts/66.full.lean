/-! ===== a whole text ===== -/
section FULL
variable (t : gt_T)
def pQ (i : Nat) (cs : List Nat) : tR := rb (pE t i cs) (fun j c => .inr (j + 1, c))
def pP (k i : Nat) (cs : List Nat) : tR := if tk t i = 4 + k then pQ t (i + 1) cs else .inl i
abbrev tX : Type := Nat ⊕ (Nat × Nat × List Nat)
def full3 (a b : Nat) (r : tR) : tX := match r with
  | .inl e => .inl e
  | .inr q3 => if tk t q3.1 = 0 then .inr (a, b, q3.2) else .inl q3.1
def full2 (a : Nat) (r : tR) : tX := match r with
  | .inl e => .inl e
  | .inr q2 => full3 t a q2.2.length (pP t 2 q2.1 q2.2)
def full1 (r : tR) : tX := match r with
  | .inl e => .inl e
  | .inr q1 => full2 t q1.2.length (pP t 1 q1.1 q1.2)
def full : tX := full1 t (pP t 0 0 [])
theorem pQ_ok {t : gt_T} (ht : t.1 ≤ 160) {i : Nat} {cs : List Nat} {j : Nat} {c : List Nat} (h : pQ t i cs = .inr (j, c)) : i < j ∧ tk t (j - 1) ≠ 0 ∧ ∃ w, c = cs ++ w ∧ w.length + i + 1 ≤ j ∧ hz w 0 = some 1 := by
  obtain ⟨j1, c1, h1, h2⟩ := rb_inr h
  have e1 : j1 + 1 = j := congrArg Prod.fst (Sum.inr.inj h2)
  have e2 : c1 = c := congrArg Prod.snd (Sum.inr.inj h2)
  subst e1; subst e2
  obtain ⟨j2, c2, h3, h4⟩ := rb_inr h1
  have h5 : (if tk t j2 = 59 then (.inr (j2, c2) : tR) else .inl j2) = .inr (j1, c1) := h4
  split at h5
  · rename_i c59
    have e1 : j2 = j1 := congrArg Prod.fst (Sum.inr.inj h5)
    have e2 : c2 = c1 := congrArg Prod.snd (Sum.inr.inj h5)
    subst e1; subst e2
    obtain ⟨g1, g2, w, g3, g4, g5⟩ := (GP_all t 5 (Nat.le_refl 5)).2.2 _ _ _ _ h3
    exact ⟨by omega, by rw [Nat.add_sub_cancel]; omega, w, g3, by omega, g5 0 (by decide)⟩
  · cases h5
theorem pP_ok {t : gt_T} (ht : t.1 ≤ 160) {k i : Nat} {cs : List Nat} {j : Nat} {c : List Nat} (hc : cs.length ≤ i) (h : pP t k i cs = .inr (j, c)) : j ≤ 160 ∧ c.length ≤ j ∧ ∃ w, c = cs ++ w ∧ hz w 0 = some 1 := by
  unfold pP at h
  split at h
  · obtain ⟨g1, g2, w, g3, g4, g5⟩ := pQ_ok ht h
    have := (tk_n0 g2).2
    refine ⟨by omega, by rw [g3, List.length_append]; omega, w, g3, g5⟩
  · cases h
theorem hs_hz (f : Nat → Nat) (a : Nat) (w : List Nat) (h : ∀ i, i < w.length → f (a + i) = w.getD i 0) : ∀ n, n ≤ w.length → gx_hs f a n = hz (w.take n) 0
  | 0, _ => by rw [List.take_zero]; rfl
  | n + 1, hn => by
    rw [gx_hs, hs_hz f a w h n (by omega), List.take_succ_eq_append_getElem (by omega), hz_app, h n (by omega)]
    cases hz (w.take n) 0 with
    | none => rfl
    | some x =>
      show gx_h (w.getD n 0) x = (gx_h w[n] x).bind (hz [])
      rw [List.getD_eq_getElem?_getD, List.getElem?_eq_getElem (by omega)]
      show gx_h w[n] x = (gx_h w[n] x).bind some
      cases gx_h w[n] x <;> rfl
/-- a text's beginnings and steps -/
def fst_ (a b : Nat) (c : List Nat) (p : Nat) : Nat := if p = 0 then 0 else if p = 1 then a else if p = 2 then b else c.length
theorem full_ok {t : gt_T} (ht : t.1 ≤ 160) {a b : Nat} {c : List Nat} (h : full t = .inr (a, b, c)) : c.length ≤ 160 ∧ ∀ p, p < 3 → fst_ a b c p ≤ fst_ a b c (p + 1) ∧ gx_hs (fun k => c.getD k 0) (fst_ a b c p) (fst_ a b c (p + 1) - fst_ a b c p) = some 1 := by
  unfold full at h
  cases h1 : pP t 0 0 [] with
  | inl e => rw [h1] at h; cases h
  | inr q1 =>
    rw [h1] at h
    obtain ⟨a1, a2, w1, a3, a4⟩ := pP_ok ht (Nat.le_refl 0) h1
    have h' : full2 t q1.2.length (pP t 1 q1.1 q1.2) = .inr (a, b, c) := h
    cases h2 : pP t 1 q1.1 q1.2 with
    | inl e => rw [h2] at h'; cases h'
    | inr q2 =>
      rw [h2] at h'
      obtain ⟨b1, b2, w2, b3, b4⟩ := pP_ok ht a2 h2
      have h'' : full3 t q1.2.length q2.2.length (pP t 2 q2.1 q2.2) = .inr (a, b, c) := h'
      cases h3 : pP t 2 q2.1 q2.2 with
      | inl e => rw [h3] at h''; cases h''
      | inr q3 =>
        rw [h3] at h''
        obtain ⟨c1, c2, w3, c3, c4⟩ := pP_ok ht b2 h3
        have h3' : (if tk t q3.1 = 0 then (.inr (q1.2.length, q2.2.length, q3.2) : tX) else .inl q3.1) = .inr (a, b, c) := h''
        split at h3'
        · have e := Sum.inr.inj h3'
          have e1 : q1.2.length = a := congrArg Prod.fst e
          have e2 : q2.2.length = b := congrArg (fun x => x.2.1) e
          have e3 : q3.2 = c := congrArg (fun x => x.2.2) e
          rw [List.nil_append] at a3
          rw [a3] at b3 e1
          rw [b3] at c3 e2
          rw [c3] at e3
          rw [c3] at c2
          subst e1; subst e2; subst e3
          refine ⟨by omega, fun p hp => ?_⟩
          have hp3 : p = 0 ∨ p = 1 ∨ p = 2 := by omega
          have l1 : (w1 ++ w2).length = w1.length + w2.length := List.length_append
          have l2 : (w1 ++ w2 ++ w3).length = w1.length + w2.length + w3.length := by rw [List.length_append, l1]
          have key : ∀ (u w v : List Nat), w1 ++ w2 ++ w3 = u ++ w ++ v → hz w 0 = some 1 → gx_hs (fun k => (w1 ++ w2 ++ w3).getD k 0) u.length w.length = some 1 := fun u w v e hw => by
            rw [hs_hz _ u.length w (fun i hi => ?_) w.length (Nat.le_refl _), List.take_length]
            · exact hw
            · show (w1 ++ w2 ++ w3).getD (u.length + i) 0 = w.getD i 0
              rw [e, List.getD_eq_getElem?_getD, List.getElem?_append_left (by rw [List.length_append]; omega), List.getElem?_append_right (by omega), Nat.add_sub_cancel_left, ← List.getD_eq_getElem?_getD]
          rcases hp3 with e | e | e
          · subst e
            refine ⟨Nat.zero_le _, ?_⟩
            show gx_hs _ 0 (w1.length - 0) = some 1
            exact key [] w1 (w2 ++ w3) (by rw [List.nil_append, List.append_assoc]) a4
          · subst e
            refine ⟨by show w1.length ≤ (w1 ++ w2).length; omega, ?_⟩
            show gx_hs _ w1.length ((w1 ++ w2).length - w1.length) = some 1
            rw [l1, Nat.add_sub_cancel_left]
            exact key w1 w2 w3 rfl b4
          · subst e
            refine ⟨by show (w1 ++ w2).length ≤ (w1 ++ w2 ++ w3).length; omega, ?_⟩
            show gx_hs _ (w1 ++ w2).length ((w1 ++ w2 ++ w3).length - (w1 ++ w2).length) = some 1
            rw [l2, l1, Nat.add_sub_cancel_left, ← l1]
            exact key (w1 ++ w2) w3 [] (by rw [List.append_nil]) c4
        · cases h3'
end FULL
/-- texts with one more -/
def gx_add (X : gx_T) (a b : Nat) (c : List Nat) : gx_T := (gx_n X + 1, fun u => if u = gx_n X then fst_ a b c else gx_s X u, fun u => if u = gx_n X then (fun k => c.getD k 0) else gx_c X u)
theorem gx_add_ok {X : gx_T} (hX : gx_ok X) (h6 : gx_n X < 6) {t : gt_T} (ht : t.1 ≤ 160) {a b : Nat} {c : List Nat} (h : full t = .inr (a, b, c)) : gx_ok (gx_add X a b c) := by
  obtain ⟨g1, g2⟩ := full_ok ht h
  refine ⟨by show 1 ≤ gx_n X + 1; omega, by show gx_n X + 1 ≤ 6; omega, fun u hu => ?_⟩
  have hu2 : u < gx_n X + 1 := hu
  by_cases e : u = gx_n X
  · have e1 : gx_s (gx_add X a b c) u = fst_ a b c := if_pos e
    have e2 : gx_c (gx_add X a b c) u = fun k => c.getD k 0 := if_pos e
    rw [e1, e2]
    exact ⟨rfl, g1, g2⟩
  · have e1 : gx_s (gx_add X a b c) u = gx_s X u := if_neg e
    have e2 : gx_c (gx_add X a b c) u = gx_c X u := if_neg e
    rw [e1, e2]
    exact hX.2.2 u (by omega)
theorem layT_cd {ext : List qm_LE} {s : Nat} (hs : s < 6) : (qm_layT ++ ext)[10 + s]? = some (.inr (.inl (160, 6 + s))) := by
  have h : s = 0 ∨ s = 1 ∨ s = 2 ∨ s = 3 ∨ s = 4 ∨ s = 5 := by omega
  rcases h with e | e | e | e | e | e <;> (subst e; rfl)
theorem layT_st {ext : List qm_LE} {s : Nat} (hs : s < 6) : (qm_layT ++ ext)[16 + s]? = some (.inr (.inl (4, 12 + s))) := by
  have h : s = 0 ∨ s = 1 ∨ s = 2 ∨ s = 3 ∨ s = 4 ∨ s = 5 := by omega
  rcases h with e | e | e | e | e | e <;> (subst e; rfl)

set_option maxRecDepth 8000 in
set_option maxHeartbeats 2000000 in
theorem l_partR {t : gt_T} (hk : gt_ok t) {ext : List qm_LE} {n k : Nat} (hk3 : k < 3) {σ : qm_St} {i : Nat} {cs : List Nat} (h : RC t σ i cs) (hc : cs.length ≤ i) (hi : i ≤ 160) : ∃ σ', (∀ v τ, Ex (qm_layT ++ ext) 50 mX3_read 39 [some (.ref 0), some (.ref 5), some (.int (nI n)), some (.int (nI (k + 1)))] [] σ' v τ → Ex (qm_layT ++ ext) 50 mX3_read 39 [some (.ref 0), some (.ref 5), some (.int (nI n)), some (.int (nI k))] [] σ v τ) ∧ PPc_ t σ' (pP t k i cs) ∧ qm_rF σ' 1 k = nI cs.length ∧ (∀ q, q ≠ k → qm_rF σ' 1 q = qm_rF σ 1 q) ∧ sm σ σ' 1 7 0 2 := by
  have ht := hk.1
  have hg : sm σ (qm_wF σ 1 k (nI cs.length)) 1 1 1 2 := (sm.rf σ 1 1 1 2).wF _ (by omega)
  have h1 : RC t (qm_wF σ 1 k (nI cs.length)) i cs := ⟨h.1.sm hg (by omega) (by omega), h.2.1, h.2.2.1, fun q hq => by rw [hg.2 _ (by omega)]; exact h.2.2.2 q hq⟩
  obtain ⟨σ1, hO1, hP1, hs1⟩ := expect_keyR (ext := ext) hk (d := 4 + k) (by omega) h1 (by omega)
  have fin : ∀ (σ3 : qm_St) (r : tR), sm (qm_wF σ 1 k (nI cs.length)) σ3 1 7 0 1 → PPc_ t σ3 r → (∀ v τ, Ex (qm_layT ++ ext) 50 mX3_read 39 [some (.ref 0), some (.ref 5), some (.int (nI n)), some (.int (nI (k + 1)))] [] σ3 v τ → Ex (qm_layT ++ ext) 50 mX3_read 39 [some (.ref 0), some (.ref 5), some (.int (nI n)), some (.int (nI k))] [] σ v τ) → pP t k i cs = r → ∃ σ', (∀ v τ, Ex (qm_layT ++ ext) 50 mX3_read 39 [some (.ref 0), some (.ref 5), some (.int (nI n)), some (.int (nI (k + 1)))] [] σ' v τ → Ex (qm_layT ++ ext) 50 mX3_read 39 [some (.ref 0), some (.ref 5), some (.int (nI n)), some (.int (nI k))] [] σ v τ) ∧ PPc_ t σ' (pP t k i cs) ∧ qm_rF σ' 1 k = nI cs.length ∧ (∀ q, q ≠ k → qm_rF σ' 1 q = qm_rF σ 1 q) ∧ sm σ σ' 1 7 0 2 := fun σ3 r hs hP hE e => by
    refine ⟨σ3, hE, by rw [e]; exact hP, by rw [hs.2 _ (by omega), rF_eq], fun q hq => by rw [hs.2 _ (by omega), rF_ne (Or.inr hq)], (hg.wid (by omega) (by omega)).tr (hs.wid (by omega) (by omega))⟩
  by_cases c1 : tk t i = 4 + k
  · rw [if_pos c1] at hP1
    have hi160 := (tk_n0 (t := t) (i := i) (by omega)).2
    obtain ⟨σ2, hO2, hP2, hs2⟩ := (hAll hk (ext := ext) 5 0 rfl).2.2.1 (i + 1) cs σ1 hP1 (by omega) (by omega)
    cases e : pOr t 5 (i + 1) cs with
    | inl e1 =>
      rw [e] at hP2
      obtain ⟨σ3, hO3, hF3, hs3⟩ := expect_59F (ext := ext) hk hP2
      refine fin σ3 (.inl e1) (hs1.tr (hs2.tr hs3)) hF3 (fun v τ hz => ?_) (by unfold pP pQ pE; rw [if_pos c1, e]; rfl)
      refine ex_iload_n dX3_read_39 rfl rfl ?_
      refine ex_iconst (x := 3) dX3_read_40 rfl rfl ?_
      refine ex_icmp_ge (q := 78) (q2 := 44) dX3_read_41 rfl rfl (fun hh => absurd hh (nI_ge (a := k) (b := 3) (by omega) (by omega))) (fun _ => ?_)
      refine ex_aload_n dX3_read_44 rfl rfl ?_
      refine ex_getR (b := 2) dX3_read_45 rfl qp_2_15 rfl rfl ?_
      refine ex_iload_n dX3_read_48 rfl rfl ?_
      refine ex_aload_n dX3_read_49 rfl rfl ?_
      refine ex_getI (s := 1) (x := nI cs.length) dX3_read_50 rfl qp_2_31 rfl rfl (h.2.2.1) ?_
      refine ex_iastore (k := k) (σ' := qm_wF σ 1 k (nI cs.length)) dX3_read_53 rfl rfl (rfl) (by omega) (by decide) rfl ?_
      refine ex_aload_n dX3_read_54 rfl rfl ?_
      refine ex_iconst (x := 4) dX3_read_55 rfl rfl ?_
      refine ex_iload_n dX3_read_56 rfl rfl ?_
      refine ex_iadd (z := nI (4 + k)) dX3_read_57 rfl (nI_add 4 k) ?_
      refine ex_callV (a := 0) (rest := []) dX3_read_58 rfl qp_2_43 rfl rfl rfl rfl rfl (Nat.le_of_ble_eq_true rfl) (hO1) (by omega) ?_
      show Ex (qm_layT ++ ext) _ mX3_read 61 [some (.ref 0), some (.ref 5), some (.int (nI n)), some (.int (nI k))] [] σ1 _ _
      refine ex_aload_n dX3_read_61 rfl rfl ?_
      refine ex_iconst (x := 0) dX3_read_62 rfl rfl ?_
      refine ex_callV (a := 0) (rest := []) dX3_read_63 rfl qp_2_47 rfl rfl rfl rfl rfl (Nat.le_of_ble_eq_true rfl) (hO2) (by omega) ?_
      show Ex (qm_layT ++ ext) _ mX3_read 66 [some (.ref 0), some (.ref 5), some (.int (nI n)), some (.int (nI k))] [] σ2 _ _
      refine ex_aload_n dX3_read_66 rfl rfl ?_
      refine ex_bipush (x := 59) dX3_read_67 rfl rfl ?_
      refine ex_callV (a := 0) (rest := []) dX3_read_69 rfl qp_2_43 rfl rfl rfl rfl rfl (Nat.le_of_ble_eq_true rfl) (hO3) (by omega) ?_
      show Ex (qm_layT ++ ext) _ mX3_read 72 [some (.ref 0), some (.ref 5), some (.int (nI n)), some (.int (nI k))] [] σ3 _ _
      refine ex_iinc (y := nI (k + 1)) (ls' := [some (.ref 0), some (.ref 5), some (.int (nI n)), some (.int (nI (k + 1)))]) dX3_read_72 rfl rfl rfl (nI_add k 1) rfl ?_
      refine ex_goto (q := 39) dX3_read_75 rfl ?_
      exact hz
    | inr q =>
      rw [e] at hP2
      obtain ⟨g1, g2, g3⟩ := GP_le ht (GP_all t 5 (Nat.le_refl 5)).2.2 e (n := 0) (by omega)
      obtain ⟨σ3, hO3, hP3, hs3⟩ := expect_59R (ext := ext) hk hP2 (by omega)
      refine fin σ3 _ (hs1.tr (hs2.tr hs3)) hP3 (fun v τ hz => ?_) (by unfold pP pQ pE; rw [if_pos c1, e]; show rb (if tk t q.1 = 59 then (.inr (q.1, q.2) : tR) else .inl q.1) _ = _; split <;> rfl)
      refine ex_iload_n dX3_read_39 rfl rfl ?_
      refine ex_iconst (x := 3) dX3_read_40 rfl rfl ?_
      refine ex_icmp_ge (q := 78) (q2 := 44) dX3_read_41 rfl rfl (fun hh => absurd hh (nI_ge (a := k) (b := 3) (by omega) (by omega))) (fun _ => ?_)
      refine ex_aload_n dX3_read_44 rfl rfl ?_
      refine ex_getR (b := 2) dX3_read_45 rfl qp_2_15 rfl rfl ?_
      refine ex_iload_n dX3_read_48 rfl rfl ?_
      refine ex_aload_n dX3_read_49 rfl rfl ?_
      refine ex_getI (s := 1) (x := nI cs.length) dX3_read_50 rfl qp_2_31 rfl rfl (h.2.2.1) ?_
      refine ex_iastore (k := k) (σ' := qm_wF σ 1 k (nI cs.length)) dX3_read_53 rfl rfl (rfl) (by omega) (by decide) rfl ?_
      refine ex_aload_n dX3_read_54 rfl rfl ?_
      refine ex_iconst (x := 4) dX3_read_55 rfl rfl ?_
      refine ex_iload_n dX3_read_56 rfl rfl ?_
      refine ex_iadd (z := nI (4 + k)) dX3_read_57 rfl (nI_add 4 k) ?_
      refine ex_callV (a := 0) (rest := []) dX3_read_58 rfl qp_2_43 rfl rfl rfl rfl rfl (Nat.le_of_ble_eq_true rfl) (hO1) (by omega) ?_
      show Ex (qm_layT ++ ext) _ mX3_read 61 [some (.ref 0), some (.ref 5), some (.int (nI n)), some (.int (nI k))] [] σ1 _ _
      refine ex_aload_n dX3_read_61 rfl rfl ?_
      refine ex_iconst (x := 0) dX3_read_62 rfl rfl ?_
      refine ex_callV (a := 0) (rest := []) dX3_read_63 rfl qp_2_47 rfl rfl rfl rfl rfl (Nat.le_of_ble_eq_true rfl) (hO2) (by omega) ?_
      show Ex (qm_layT ++ ext) _ mX3_read 66 [some (.ref 0), some (.ref 5), some (.int (nI n)), some (.int (nI k))] [] σ2 _ _
      refine ex_aload_n dX3_read_66 rfl rfl ?_
      refine ex_bipush (x := 59) dX3_read_67 rfl rfl ?_
      refine ex_callV (a := 0) (rest := []) dX3_read_69 rfl qp_2_43 rfl rfl rfl rfl rfl (Nat.le_of_ble_eq_true rfl) (hO3) (by omega) ?_
      show Ex (qm_layT ++ ext) _ mX3_read 72 [some (.ref 0), some (.ref 5), some (.int (nI n)), some (.int (nI k))] [] σ3 _ _
      refine ex_iinc (y := nI (k + 1)) (ls' := [some (.ref 0), some (.ref 5), some (.int (nI n)), some (.int (nI (k + 1)))]) dX3_read_72 rfl rfl rfl (nI_add k 1) rfl ?_
      refine ex_goto (q := 39) dX3_read_75 rfl ?_
      exact hz
  · rw [if_neg c1] at hP1
    obtain ⟨σ2, hO2, hF2, hs2⟩ := (hAll hk (ext := ext) 5 0 rfl).2.2.2 i σ1 hP1
    obtain ⟨σ3, hO3, hF3, hs3⟩ := expect_59F (ext := ext) hk hF2
    refine fin σ3 (.inl i) (hs1.tr (hs2.tr hs3)) hF3 (fun v τ hz => ?_) (by unfold pP; rw [if_neg c1])
    refine ex_iload_n dX3_read_39 rfl rfl ?_
    refine ex_iconst (x := 3) dX3_read_40 rfl rfl ?_
    refine ex_icmp_ge (q := 78) (q2 := 44) dX3_read_41 rfl rfl (fun hh => absurd hh (nI_ge (a := k) (b := 3) (by omega) (by omega))) (fun _ => ?_)
    refine ex_aload_n dX3_read_44 rfl rfl ?_
    refine ex_getR (b := 2) dX3_read_45 rfl qp_2_15 rfl rfl ?_
    refine ex_iload_n dX3_read_48 rfl rfl ?_
    refine ex_aload_n dX3_read_49 rfl rfl ?_
    refine ex_getI (s := 1) (x := nI cs.length) dX3_read_50 rfl qp_2_31 rfl rfl (h.2.2.1) ?_
    refine ex_iastore (k := k) (σ' := qm_wF σ 1 k (nI cs.length)) dX3_read_53 rfl rfl (rfl) (by omega) (by decide) rfl ?_
    refine ex_aload_n dX3_read_54 rfl rfl ?_
    refine ex_iconst (x := 4) dX3_read_55 rfl rfl ?_
    refine ex_iload_n dX3_read_56 rfl rfl ?_
    refine ex_iadd (z := nI (4 + k)) dX3_read_57 rfl (nI_add 4 k) ?_
    refine ex_callV (a := 0) (rest := []) dX3_read_58 rfl qp_2_43 rfl rfl rfl rfl rfl (Nat.le_of_ble_eq_true rfl) (hO1) (by omega) ?_
    show Ex (qm_layT ++ ext) _ mX3_read 61 [some (.ref 0), some (.ref 5), some (.int (nI n)), some (.int (nI k))] [] σ1 _ _
    refine ex_aload_n dX3_read_61 rfl rfl ?_
    refine ex_iconst (x := 0) dX3_read_62 rfl rfl ?_
    refine ex_callV (a := 0) (rest := []) dX3_read_63 rfl qp_2_47 rfl rfl rfl rfl rfl (Nat.le_of_ble_eq_true rfl) (hO2) (by omega) ?_
    show Ex (qm_layT ++ ext) _ mX3_read 66 [some (.ref 0), some (.ref 5), some (.int (nI n)), some (.int (nI k))] [] σ2 _ _
    refine ex_aload_n dX3_read_66 rfl rfl ?_
    refine ex_bipush (x := 59) dX3_read_67 rfl rfl ?_
    refine ex_callV (a := 0) (rest := []) dX3_read_69 rfl qp_2_43 rfl rfl rfl rfl rfl (Nat.le_of_ble_eq_true rfl) (hO3) (by omega) ?_
    show Ex (qm_layT ++ ext) _ mX3_read 72 [some (.ref 0), some (.ref 5), some (.int (nI n)), some (.int (nI k))] [] σ3 _ _
    refine ex_iinc (y := nI (k + 1)) (ls' := [some (.ref 0), some (.ref 5), some (.int (nI n)), some (.int (nI (k + 1)))]) dX3_read_72 rfl rfl rfl (nI_add k 1) rfl ?_
    refine ex_goto (q := 39) dX3_read_75 rfl ?_
    exact hz

set_option maxRecDepth 8000 in
set_option maxHeartbeats 2000000 in
theorem l_partF {t : gt_T} (hk : gt_ok t) {ext : List qm_LE} {n k : Nat} (hk3 : k < 3) {σ : qm_St} {e : Nat} (h : FC t σ e) : ∃ σ', (∀ v τ, Ex (qm_layT ++ ext) 50 mX3_read 39 [some (.ref 0), some (.ref 5), some (.int (nI n)), some (.int (nI (k + 1)))] [] σ' v τ → Ex (qm_layT ++ ext) 50 mX3_read 39 [some (.ref 0), some (.ref 5), some (.int (nI n)), some (.int (nI k))] [] σ v τ) ∧ FC t σ' e ∧ sm σ σ' 1 7 0 2 := by
  obtain ⟨h4, h6, m, hm, h1m⟩ := h
  have hg : sm σ (qm_wF σ 1 k (nI m)) 1 1 1 2 := (sm.rf σ 1 1 1 2).wF _ (by omega)
  have h1 : FC t (qm_wF σ 1 k (nI m)) e := ⟨h4, h6, m, hm, h1m⟩
  obtain ⟨σ1, hO1, hF1, hs1⟩ := expect_keyF (ext := ext) hk (d := 4 + k) (by omega) h1
  obtain ⟨σ2, hO2, hF2, hs2⟩ := (hAll hk (ext := ext) 5 0 rfl).2.2.2 e σ1 hF1
  obtain ⟨σ3, hO3, hF3, hs3⟩ := expect_59F (ext := ext) hk hF2
  refine ⟨σ3, fun v τ hz => ?_, hF3, (hg.wid (by omega) (by omega)).tr ((hs1.tr (hs2.tr hs3)).wid (by omega) (by omega))⟩
  refine ex_iload_n dX3_read_39 rfl rfl ?_
  refine ex_iconst (x := 3) dX3_read_40 rfl rfl ?_
  refine ex_icmp_ge (q := 78) (q2 := 44) dX3_read_41 rfl rfl (fun hh => absurd hh (nI_ge (a := k) (b := 3) (by omega) (by omega))) (fun _ => ?_)
  refine ex_aload_n dX3_read_44 rfl rfl ?_
  refine ex_getR (b := 2) dX3_read_45 rfl qp_2_15 rfl rfl ?_
  refine ex_iload_n dX3_read_48 rfl rfl ?_
  refine ex_aload_n dX3_read_49 rfl rfl ?_
  refine ex_getI (s := 1) (x := nI m) dX3_read_50 rfl qp_2_31 rfl rfl (h1m) ?_
  refine ex_iastore (k := k) (σ' := qm_wF σ 1 k (nI m)) dX3_read_53 rfl rfl (rfl) (by omega) (by decide) rfl ?_
  refine ex_aload_n dX3_read_54 rfl rfl ?_
  refine ex_iconst (x := 4) dX3_read_55 rfl rfl ?_
  refine ex_iload_n dX3_read_56 rfl rfl ?_
  refine ex_iadd (z := nI (4 + k)) dX3_read_57 rfl (nI_add 4 k) ?_
  refine ex_callV (a := 0) (rest := []) dX3_read_58 rfl qp_2_43 rfl rfl rfl rfl rfl (Nat.le_of_ble_eq_true rfl) (hO1) (by omega) ?_
  show Ex (qm_layT ++ ext) _ mX3_read 61 [some (.ref 0), some (.ref 5), some (.int (nI n)), some (.int (nI k))] [] σ1 _ _
  refine ex_aload_n dX3_read_61 rfl rfl ?_
  refine ex_iconst (x := 0) dX3_read_62 rfl rfl ?_
  refine ex_callV (a := 0) (rest := []) dX3_read_63 rfl qp_2_47 rfl rfl rfl rfl rfl (Nat.le_of_ble_eq_true rfl) (hO2) (by omega) ?_
  show Ex (qm_layT ++ ext) _ mX3_read 66 [some (.ref 0), some (.ref 5), some (.int (nI n)), some (.int (nI k))] [] σ2 _ _
  refine ex_aload_n dX3_read_66 rfl rfl ?_
  refine ex_bipush (x := 59) dX3_read_67 rfl rfl ?_
  refine ex_callV (a := 0) (rest := []) dX3_read_69 rfl qp_2_43 rfl rfl rfl rfl rfl (Nat.le_of_ble_eq_true rfl) (hO3) (by omega) ?_
  show Ex (qm_layT ++ ext) _ mX3_read 72 [some (.ref 0), some (.ref 5), some (.int (nI n)), some (.int (nI k))] [] σ3 _ _
  refine ex_iinc (y := nI (k + 1)) (ls' := [some (.ref 0), some (.ref 5), some (.int (nI n)), some (.int (nI (k + 1)))]) dX3_read_72 rfl rfl rfl (nI_add k 1) rfl ?_
  refine ex_goto (q := 39) dX3_read_75 rfl ?_
  exact hz

set_option maxRecDepth 8000 in
set_option maxHeartbeats 2000000 in
theorem l_endF {t : gt_T} (hk : gt_ok t) {ext : List qm_LE} {n : Nat} {σ : qm_St} {e : Nat} (h : FC t σ e) : ∃ σ', Ex (qm_layT ++ ext) 50 mX3_read 39 [some (.ref 0), some (.ref 5), some (.int (nI n)), some (.int 3)] [] σ (some (.int (nI (tpl t e)))) σ' ∧ sm σ σ' 1 7 0 2 := by
  obtain ⟨h4, h6, m, hm, h1m⟩ := h
  have hg : sm σ (qm_wF σ 1 3 (nI m)) 1 1 1 2 := (sm.rf σ 1 1 1 2).wF _ (by omega)
  obtain ⟨σ1, hO1, hF1, hs1⟩ := failF (ext := ext) hk (σ := qm_wF σ 1 3 (nI m)) (e := e) ⟨h4, h6, m, hm, h1m⟩
  refine ⟨σ1, ?_, (hg.wid (by omega) (by omega)).tr (hs1.wid (by omega) (by omega))⟩
  refine ex_iload_n dX3_read_39 rfl rfl ?_
  refine ex_iconst (x := 3) dX3_read_40 rfl rfl ?_
  refine ex_icmp_ge (q := 78) (q2 := 44) dX3_read_41 rfl rfl (fun _ => ?_) (fun hh => absurd (by decide) hh)
  refine ex_aload_n dX3_read_78 rfl rfl ?_
  refine ex_getR (b := 2) dX3_read_79 rfl qp_2_15 rfl rfl ?_
  refine ex_iconst (x := 3) dX3_read_82 rfl rfl ?_
  refine ex_aload_n dX3_read_83 rfl rfl ?_
  refine ex_getI (s := 1) (x := nI m) dX3_read_84 rfl qp_2_31 rfl rfl (h1m) ?_
  refine ex_iastore (k := 3) (σ' := qm_wF σ 1 3 (nI m)) dX3_read_87 rfl rfl (rfl) (by omega) (by decide) rfl ?_
  refine ex_aload_n dX3_read_88 rfl rfl ?_
  refine ex_getI (s := 4) (x := 3) dX3_read_89 rfl qp_2_50 rfl rfl (h4) ?_
  refine ex_if_eq (q := 99) (q2 := 95) dX3_read_92 rfl rfl (fun hh => absurd hh (by decide)) (fun _ => ?_)
  refine ex_aload_n dX3_read_95 rfl rfl ?_
  refine ex_callV (a := 0) (rest := []) dX3_read_96 rfl qp_2_53 rfl rfl rfl rfl rfl (Nat.le_of_ble_eq_true rfl) (hO1) (by omega) ?_
  show Ex (qm_layT ++ ext) _ mX3_read 99 [some (.ref 0), some (.ref 5), some (.int (nI n)), some (.int 3)] [] σ1 _ _
  refine ex_aload_n dX3_read_99 rfl rfl ?_
  refine ex_getI (s := 6) (x := nI (tpl t e)) dX3_read_100 rfl qp_2_37 rfl rfl (hF1.2.1) ?_
  exact ex_iret dX3_read_103 rfl rfl rfl

set_option maxRecDepth 8000 in
set_option maxHeartbeats 2000000 in
theorem l_endR {t : gt_T} (hk : gt_ok t) {ext : List qm_LE} {n : Nat} {σ : qm_St} {i : Nat} {cs : List Nat} (h : RC t σ i cs) (hc : cs.length ≤ 160) : ∃ σ', Ex (qm_layT ++ ext) 50 mX3_read 39 [some (.ref 0), some (.ref 5), some (.int (nI n)), some (.int 3)] [] σ (some (.int (if tk t i = 0 then -1 else nI (tpl t i)))) σ' ∧ (tk t i = 0 → qm_rF σ' 1 3 = nI cs.length ∧ (∀ q, q ≠ 3 → qm_rF σ' 1 q = qm_rF σ 1 q) ∧ ∀ k, k < cs.length → qm_rF σ' 0 k = nI (cs.getD k 0)) ∧ sm σ σ' 1 7 0 2 := by
  have htk := tk_lt hk i
  have hg : sm σ (qm_wF σ 1 3 (nI cs.length)) 1 1 1 2 := (sm.rf σ 1 1 1 2).wF _ (by omega)
  by_cases c0 : tk t i = 0
  · rw [if_pos c0]
    have h6 := (h.2.1.2.2.2.2 (show tk t i ≠ 3 by omega)).1
    refine ⟨_, ?_, fun _ => ⟨rF_eq, fun q hq => rF_ne (Or.inr hq), fun k hk2 => by rw [hg.2 _ (by omega)]; exact h.2.2.2 k hk2⟩, hg.wid (by omega) (by omega)⟩
    refine ex_iload_n dX3_read_39 rfl rfl ?_
    refine ex_iconst (x := 3) dX3_read_40 rfl rfl ?_
    refine ex_icmp_ge (q := 78) (q2 := 44) dX3_read_41 rfl rfl (fun _ => ?_) (fun hh => absurd (by decide) hh)
    refine ex_aload_n dX3_read_78 rfl rfl ?_
    refine ex_getR (b := 2) dX3_read_79 rfl qp_2_15 rfl rfl ?_
    refine ex_iconst (x := 3) dX3_read_82 rfl rfl ?_
    refine ex_aload_n dX3_read_83 rfl rfl ?_
    refine ex_getI (s := 1) (x := nI cs.length) dX3_read_84 rfl qp_2_31 rfl rfl (h.2.2.1) ?_
    refine ex_iastore (k := 3) (σ' := qm_wF σ 1 3 (nI cs.length)) dX3_read_87 rfl rfl (rfl) (by omega) (by decide) rfl ?_
    refine ex_aload_n dX3_read_88 rfl rfl ?_
    refine ex_getI (s := 4) (x := nI (tk t i)) dX3_read_89 rfl qp_2_50 rfl rfl (h.2.1.2.1) ?_
    refine ex_if_eq (q := 99) (q2 := 95) dX3_read_92 rfl rfl (fun _ => ?_) (fun hh => absurd (by rw [c0]; rfl) hh)
    refine ex_aload_n dX3_read_99 rfl rfl ?_
    refine ex_getI (s := 6) (x := (-1)) dX3_read_100 rfl qp_2_37 rfl rfl (h6) ?_
    exact ex_iret dX3_read_103 rfl rfl rfl
  · rw [if_neg c0]
    have h1 : RC t (qm_wF σ 1 3 (nI cs.length)) i cs := ⟨h.1.sm hg (by omega) (by omega), h.2.1, h.2.2.1, fun q hq => by rw [hg.2 _ (by omega)]; exact h.2.2.2 q hq⟩
    obtain ⟨σ1, hO1, hF1, hs1⟩ := failR (ext := ext) hk h1 hc
    refine ⟨σ1, ?_, fun z => absurd z c0, (hg.wid (by omega) (by omega)).tr (hs1.wid (by omega) (by omega))⟩
    refine ex_iload_n dX3_read_39 rfl rfl ?_
    refine ex_iconst (x := 3) dX3_read_40 rfl rfl ?_
    refine ex_icmp_ge (q := 78) (q2 := 44) dX3_read_41 rfl rfl (fun _ => ?_) (fun hh => absurd (by decide) hh)
    refine ex_aload_n dX3_read_78 rfl rfl ?_
    refine ex_getR (b := 2) dX3_read_79 rfl qp_2_15 rfl rfl ?_
    refine ex_iconst (x := 3) dX3_read_82 rfl rfl ?_
    refine ex_aload_n dX3_read_83 rfl rfl ?_
    refine ex_getI (s := 1) (x := nI cs.length) dX3_read_84 rfl qp_2_31 rfl rfl (h.2.2.1) ?_
    refine ex_iastore (k := 3) (σ' := qm_wF σ 1 3 (nI cs.length)) dX3_read_87 rfl rfl (rfl) (by omega) (by decide) rfl ?_
    refine ex_aload_n dX3_read_88 rfl rfl ?_
    refine ex_getI (s := 4) (x := nI (tk t i)) dX3_read_89 rfl qp_2_50 rfl rfl (h.2.1.2.1) ?_
    refine ex_if_eq (q := 99) (q2 := 95) dX3_read_92 rfl rfl (fun hh => absurd hh (fun zz => c0 ((nI_eq (b := 0) (by omega) (by decide)).mp zz))) (fun _ => ?_)
    refine ex_aload_n dX3_read_95 rfl rfl ?_
    refine ex_callV (a := 0) (rest := []) dX3_read_96 rfl qp_2_53 rfl rfl rfl rfl rfl (Nat.le_of_ble_eq_true rfl) (hO1) (by omega) ?_
    show Ex (qm_layT ++ ext) _ mX3_read 99 [some (.ref 0), some (.ref 5), some (.int (nI n)), some (.int 3)] [] σ1 _ _
    refine ex_aload_n dX3_read_99 rfl rfl ?_
    refine ex_getI (s := 6) (x := nI (tpl t i)) dX3_read_100 rfl qp_2_37 rfl rfl (hF1.2.1) ?_
    exact ex_iret dX3_read_103 rfl rfl rfl

set_option maxRecDepth 8000 in
set_option maxHeartbeats 2000000 in
theorem l_read3 {t : gt_T} (hk : gt_ok t) {ext : List qm_LE} {n : Nat} {σ : qm_St} (h : RC t σ 0 []) : ∃ σ', (match full t with
    | .inl e => Ex (qm_layT ++ ext) 50 mX3_read 39 [some (.ref 0), some (.ref 5), some (.int (nI n)), some (.int 0)] [] σ (some (.int (nI (tpl t e)))) σ'
    | .inr q => Ex (qm_layT ++ ext) 50 mX3_read 39 [some (.ref 0), some (.ref 5), some (.int (nI n)), some (.int 0)] [] σ (some (.int (-1))) σ' ∧ (∀ p, p < 4 → qm_rF σ' 1 p = nI (fst_ q.1 q.2.1 q.2.2 p)) ∧ ∀ k, k < q.2.2.length → qm_rF σ' 0 k = nI (q.2.2.getD k 0)) ∧ sm σ σ' 1 7 0 2 := by
  have ht := hk.1
  obtain ⟨σ1, hE1, hP1, hr1, hq1, hs1⟩ := l_partR hk (ext := ext) (n := n) (k := 0) (by decide) h (Nat.le_refl 0) (by decide)
  cases e1 : pP t 0 0 [] with
  | inl e =>
    rw [e1] at hP1
    obtain ⟨σ2, hE2, hF2, hs2⟩ := l_partF hk (ext := ext) (n := n) (k := 1) (by decide) hP1
    obtain ⟨σ3, hE3, hF3, hs3⟩ := l_partF hk (ext := ext) (n := n) (k := 2) (by decide) hF2
    obtain ⟨σ4, hE4, hs4⟩ := l_endF hk (ext := ext) (n := n) hF3
    have ef : full t = .inl e := by unfold full; rw [e1]; rfl
    rw [ef]
    exact ⟨σ4, hE1 _ _ (hE2 _ _ (hE3 _ _ hE4)), hs1.tr (hs2.tr (hs3.tr hs4))⟩
  | inr q1 =>
    rw [e1] at hP1
    obtain ⟨a1, a2, w1, a3, a4⟩ := pP_ok ht (Nat.le_refl 0) e1
    obtain ⟨σ2, hE2, hP2, hr2, hq2, hs2⟩ := l_partR hk (ext := ext) (n := n) (k := 1) (by decide) hP1 a2 a1
    have ef1 : full t = full2 t q1.2.length (pP t 1 q1.1 q1.2) := by unfold full; rw [e1]; rfl
    cases e2 : pP t 1 q1.1 q1.2 with
    | inl e =>
      rw [e2] at hP2
      obtain ⟨σ3, hE3, hF3, hs3⟩ := l_partF hk (ext := ext) (n := n) (k := 2) (by decide) hP2
      obtain ⟨σ4, hE4, hs4⟩ := l_endF hk (ext := ext) (n := n) hF3
      have ef : full t = .inl e := by rw [ef1, e2]; rfl
      rw [ef]
      exact ⟨σ4, hE1 _ _ (hE2 _ _ (hE3 _ _ hE4)), hs1.tr (hs2.tr (hs3.tr hs4))⟩
    | inr q2 =>
      rw [e2] at hP2
      obtain ⟨b1, b2, w2, b3, b4⟩ := pP_ok ht a2 e2
      obtain ⟨σ3, hE3, hP3, hr3, hq3, hs3⟩ := l_partR hk (ext := ext) (n := n) (k := 2) (by decide) hP2 b2 b1
      have ef2 : full t = full3 t q1.2.length q2.2.length (pP t 2 q2.1 q2.2) := by rw [ef1, e2]; rfl
      cases e3 : pP t 2 q2.1 q2.2 with
      | inl e =>
        rw [e3] at hP3
        obtain ⟨σ4, hE4, hs4⟩ := l_endF hk (ext := ext) (n := n) hP3
        have ef : full t = .inl e := by rw [ef2, e3]; rfl
        rw [ef]
        exact ⟨σ4, hE1 _ _ (hE2 _ _ (hE3 _ _ hE4)), hs1.tr (hs2.tr (hs3.tr hs4))⟩
      | inr q3 =>
        rw [e3] at hP3
        obtain ⟨c1, c2, w3, c3, c4⟩ := pP_ok ht b2 e3
        obtain ⟨σ4, hE4, h40, hs4⟩ := l_endR hk (ext := ext) (n := n) hP3 (by omega)
        have hE := hE1 _ _ (hE2 _ _ (hE3 _ _ hE4))
        have ef3 : full t = if tk t q3.1 = 0 then (.inr (q1.2.length, q2.2.length, q3.2) : tX) else .inl q3.1 := by rw [ef2, e3]; rfl
        by_cases c0 : tk t q3.1 = 0
        · rw [if_pos c0] at hE ef3
          obtain ⟨g1, g2, g3⟩ := h40 c0
          rw [ef3]
          refine ⟨σ4, ⟨hE, fun p hp => ?_, g3⟩, hs1.tr (hs2.tr (hs3.tr hs4))⟩
          have hp4 : p = 0 ∨ p = 1 ∨ p = 2 ∨ p = 3 := by omega
          rcases hp4 with e | e | e | e
          · subst e
            rw [g2 0 (by decide), hq3 0 (by decide), hq2 0 (by decide), hr1]; rfl
          · subst e
            rw [g2 1 (by decide), hq3 1 (by decide), hr2]; rfl
          · subst e
            rw [g2 2 (by decide), hr3]; rfl
          · subst e
            rw [g1]; rfl
        · rw [if_neg c0] at hE ef3
          rw [ef3]
          exact ⟨σ4, hE, hs1.tr (hs2.tr (hs3.tr hs4))⟩

set_option maxRecDepth 8000 in
set_option maxHeartbeats 2000000 in
theorem c_read {t : gt_T} (hk : gt_ok t) {ext : List qm_LE} {σ : qm_St} (ht3 : ∀ i, i < t.1 → qm_rF σ 3 i = nI (t.2 i)) : ∃ σ', (match full t with
    | .inl e => Ok (qm_layT ++ ext) 50 mX3_read [.ref 0, .ref 5, .int (nI t.1)] σ (some (.int (nI (tpl t e)))) σ'
    | .inr q => Ok (qm_layT ++ ext) 50 mX3_read [.ref 0, .ref 5, .int (nI t.1)] σ (some (.int (-1))) σ' ∧ (∀ p, p < 4 → qm_rF σ' 1 p = nI (fst_ q.1 q.2.1 q.2.2 p)) ∧ ∀ k, k < q.2.2.length → qm_rF σ' 0 k = nI (q.2.2.getD k 0)) ∧ sm σ σ' 0 7 0 3 := by
  have h160 := hk.1
  have hs0 : sm σ (qm_wI (qm_wI (qm_wI (qm_wI (qm_wR σ 2 (va_cpy (σ.2 3) (σ.2 2) 0 0 160)) 0 (nI t.1)) 1 0) 2 0) 6 (-1)) 0 7 0 3 := (((((sm.rf σ 0 7 0 3).wR _ (by omega)).wI _ (by omega)).wI _ (by omega)).wI _ (by omega)).wI _ (by omega)
  have hT : TPR (qm_wI (qm_wI (qm_wI (qm_wI (qm_wR σ 2 (va_cpy (σ.2 3) (σ.2 2) 0 0 160)) 0 (nI t.1)) 1 0) 2 0) 6 (-1)) t := by
    refine ⟨by rw [rI_wI, if_neg (by decide), rI_wI, if_neg (by decide), rI_wI, if_neg (by decide), rI_wI, if_pos rfl], fun i hi => ?_⟩
    rw [rF_wI, rF_wI, rF_wI, rF_wI, rF_wR, if_pos rfl, pk_cpy_in (by omega) (by omega), Nat.zero_add, Nat.sub_zero]
    exact ht3 i hi
  obtain ⟨σ1, hO1, hL1, hs1⟩ := c_next (ext := ext) hk (a := 0) (Nat.zero_le _) hT (by rw [rI_wI, if_neg (by decide), rI_wI, if_pos rfl]; rfl) (by rw [rI_wI, if_pos rfl])
  have hR1 : RC t σ1 0 [] := ⟨hT.sm hs1 (by omega) (by omega), hL1, by rw [hs1.1 _ (by omega), rI_wI, if_neg (by decide), rI_wI, if_neg (by decide), rI_wI, if_pos rfl]; rfl, fun k hk2 => absurd hk2 (Nat.not_lt_zero k)⟩
  obtain ⟨σ2, hE, hs2⟩ := l_read3 hk (ext := ext) (n := t.1) hR1
  refine ⟨σ2, ?_, hs0.tr ((hs1.wid (by omega) (by omega)).tr (hs2.wid (by omega) (by omega)))⟩
  cases ef : full t with
  | inl e =>
    rw [ef] at hE
    show Ok (qm_layT ++ ext) 50 mX3_read [.ref 0, .ref 5, .int (nI t.1)] σ _ σ2
    refine Ok.of (ls := [some (.ref 0), some (.ref 5), some (.int (nI t.1)), none]) (Nat.le_of_ble_eq_true rfl) rfl ?_
    refine ex_aload_n dX3_read_0 rfl rfl ?_
    refine ex_iconst (x := 0) dX3_read_1 rfl rfl ?_
    refine ex_aload_n dX3_read_2 rfl rfl ?_
    refine ex_getR (b := 3) dX3_read_3 rfl qp_2_18 rfl rfl ?_
    refine ex_iconst (x := 0) dX3_read_6 rfl rfl ?_
    refine ex_sipush (x := 160) dX3_read_7 rfl rfl ?_
    refine ex_copy (sk := 0) (dk := 0) (nk := 160) (σ' := qm_wR σ 2 (va_cpy (σ.2 3) (σ.2 2) 0 0 160)) dX3_read_10 rfl qp_2_21 rfl rfl (rfl) (rfl) (rfl) (by decide) (by decide) (by decide) rfl ?_
    refine ex_aload_n dX3_read_13 rfl rfl ?_
    refine ex_iload_n dX3_read_14 rfl rfl ?_
    refine ex_put (σ' := qm_wI (qm_wR σ 2 (va_cpy (σ.2 3) (σ.2 2) 0 0 160)) 0 (nI t.1)) dX3_read_15 rfl qp_2_27 rfl rfl (Or.inl rfl) rfl ?_
    refine ex_aload_n dX3_read_18 rfl rfl ?_
    refine ex_iconst (x := 0) dX3_read_19 rfl rfl ?_
    refine ex_put (σ' := qm_wI (qm_wI (qm_wR σ 2 (va_cpy (σ.2 3) (σ.2 2) 0 0 160)) 0 (nI t.1)) 1 0) dX3_read_20 rfl qp_2_31 rfl rfl (Or.inl rfl) rfl ?_
    refine ex_aload_n dX3_read_23 rfl rfl ?_
    refine ex_iconst (x := 0) dX3_read_24 rfl rfl ?_
    refine ex_put (σ' := qm_wI (qm_wI (qm_wI (qm_wR σ 2 (va_cpy (σ.2 3) (σ.2 2) 0 0 160)) 0 (nI t.1)) 1 0) 2 0) dX3_read_25 rfl qp_2_34 rfl rfl (Or.inl rfl) rfl ?_
    refine ex_aload_n dX3_read_28 rfl rfl ?_
    refine ex_iconst (x := (-1)) dX3_read_29 rfl rfl ?_
    refine ex_put (σ' := qm_wI (qm_wI (qm_wI (qm_wI (qm_wR σ 2 (va_cpy (σ.2 3) (σ.2 2) 0 0 160)) 0 (nI t.1)) 1 0) 2 0) 6 (-1)) dX3_read_30 rfl qp_2_37 rfl rfl (Or.inl rfl) rfl ?_
    refine ex_aload_n dX3_read_33 rfl rfl ?_
    refine ex_callV (a := 0) (rest := []) dX3_read_34 rfl qp_2_40 rfl rfl rfl rfl rfl (Nat.le_of_ble_eq_true rfl) (hO1) (by omega) ?_
    show Ex (qm_layT ++ ext) _ mX3_read 37 [some (.ref 0), some (.ref 5), some (.int (nI t.1)), none] [] σ1 _ _
    refine ex_iconst (x := 0) dX3_read_37 rfl rfl ?_
    refine ex_istore_n (ls' := [some (.ref 0), some (.ref 5), some (.int (nI t.1)), some (.int 0)]) dX3_read_38 rfl (Nat.le_of_ble_eq_true rfl) rfl rfl ?_
    exact hE
  | inr q =>
    rw [ef] at hE
    refine ⟨?_, hE.2⟩
    refine Ok.of (ls := [some (.ref 0), some (.ref 5), some (.int (nI t.1)), none]) (Nat.le_of_ble_eq_true rfl) rfl ?_
    refine ex_aload_n dX3_read_0 rfl rfl ?_
    refine ex_iconst (x := 0) dX3_read_1 rfl rfl ?_
    refine ex_aload_n dX3_read_2 rfl rfl ?_
    refine ex_getR (b := 3) dX3_read_3 rfl qp_2_18 rfl rfl ?_
    refine ex_iconst (x := 0) dX3_read_6 rfl rfl ?_
    refine ex_sipush (x := 160) dX3_read_7 rfl rfl ?_
    refine ex_copy (sk := 0) (dk := 0) (nk := 160) (σ' := qm_wR σ 2 (va_cpy (σ.2 3) (σ.2 2) 0 0 160)) dX3_read_10 rfl qp_2_21 rfl rfl (rfl) (rfl) (rfl) (by decide) (by decide) (by decide) rfl ?_
    refine ex_aload_n dX3_read_13 rfl rfl ?_
    refine ex_iload_n dX3_read_14 rfl rfl ?_
    refine ex_put (σ' := qm_wI (qm_wR σ 2 (va_cpy (σ.2 3) (σ.2 2) 0 0 160)) 0 (nI t.1)) dX3_read_15 rfl qp_2_27 rfl rfl (Or.inl rfl) rfl ?_
    refine ex_aload_n dX3_read_18 rfl rfl ?_
    refine ex_iconst (x := 0) dX3_read_19 rfl rfl ?_
    refine ex_put (σ' := qm_wI (qm_wI (qm_wR σ 2 (va_cpy (σ.2 3) (σ.2 2) 0 0 160)) 0 (nI t.1)) 1 0) dX3_read_20 rfl qp_2_31 rfl rfl (Or.inl rfl) rfl ?_
    refine ex_aload_n dX3_read_23 rfl rfl ?_
    refine ex_iconst (x := 0) dX3_read_24 rfl rfl ?_
    refine ex_put (σ' := qm_wI (qm_wI (qm_wI (qm_wR σ 2 (va_cpy (σ.2 3) (σ.2 2) 0 0 160)) 0 (nI t.1)) 1 0) 2 0) dX3_read_25 rfl qp_2_34 rfl rfl (Or.inl rfl) rfl ?_
    refine ex_aload_n dX3_read_28 rfl rfl ?_
    refine ex_iconst (x := (-1)) dX3_read_29 rfl rfl ?_
    refine ex_put (σ' := qm_wI (qm_wI (qm_wI (qm_wI (qm_wR σ 2 (va_cpy (σ.2 3) (σ.2 2) 0 0 160)) 0 (nI t.1)) 1 0) 2 0) 6 (-1)) dX3_read_30 rfl qp_2_37 rfl rfl (Or.inl rfl) rfl ?_
    refine ex_aload_n dX3_read_33 rfl rfl ?_
    refine ex_callV (a := 0) (rest := []) dX3_read_34 rfl qp_2_40 rfl rfl rfl rfl rfl (Nat.le_of_ble_eq_true rfl) (hO1) (by omega) ?_
    show Ex (qm_layT ++ ext) _ mX3_read 37 [some (.ref 0), some (.ref 5), some (.int (nI t.1)), none] [] σ1 _ _
    refine ex_iconst (x := 0) dX3_read_37 rfl rfl ?_
    refine ex_istore_n (ls' := [some (.ref 0), some (.ref 5), some (.int (nI t.1)), some (.int 0)]) dX3_read_38 rfl (Nat.le_of_ble_eq_true rfl) rfl rfl ?_
    exact hE.1

set_option maxRecDepth 8000 in
set_option maxHeartbeats 2000000 in
theorem c_readTape {t : gt_T} (hk : gt_ok t) {ext : List qm_LE} {σ : qm_St} (ht3 : PC σ t) {s : Nat} (h7 : qm_rI σ 7 = nI s) (hs6 : s < 6) : ∃ σ1, sm σ σ1 0 7 0 3 ∧ (match full t with
    | .inl e => Ok (qm_layT ++ ext) 51 mX6_readTape [.ref 4] σ (some (.int (nI (tpl t e)))) (qm_wI σ1 8 0)
    | .inr q => Ok (qm_layT ++ ext) 51 mX6_readTape [.ref 4] σ (some (.int (-1))) (qm_wI (qm_wR (qm_wR (qm_wI σ1 8 0) (6 + s) (va_cpy (σ1.2 0) (σ1.2 (6 + s)) 0 0 160)) (12 + s) (va_cpy ((qm_wR (qm_wI σ1 8 0) (6 + s) (va_cpy (σ1.2 0) (σ1.2 (6 + s)) 0 0 160)).2 1) ((qm_wR (qm_wI σ1 8 0) (6 + s) (va_cpy (σ1.2 0) (σ1.2 (6 + s)) 0 0 160)).2 (12 + s)) 0 0 4)) 7 (nI (s + 1))) ∧ (∀ p, p < 4 → qm_rF σ1 1 p = nI (fst_ q.1 q.2.1 q.2.2 p)) ∧ ∀ k, k < q.2.2.length → qm_rF σ1 0 k = nI (q.2.2.getD k 0)) := by
  obtain ⟨σ1, hO, hs1⟩ := c_read hk (ext := ext) ht3.2
  have h71 : qm_rI σ1 7 = nI s := by rw [hs1.1 _ (by omega)]; exact h7
  refine ⟨σ1, hs1, ?_⟩
  cases ef : full t with
  | inl e =>
    rw [ef] at hO
    have htp := tpl_160 hk e
    show Ok (qm_layT ++ ext) 51 mX6_readTape [.ref 4] σ _ (qm_wI σ1 8 0)
    refine Ok.of (ls := [some (.ref 4), none]) (Nat.le_of_ble_eq_true rfl) rfl ?_
    refine ex_aload_n dX6_readTape_0 rfl rfl ?_
    refine ex_getR (b := 0) dX6_readTape_1 rfl qp_5_18 rfl rfl ?_
    refine ex_aload_n dX6_readTape_4 rfl rfl ?_
    refine ex_getR (b := 5) dX6_readTape_5 rfl qp_5_9 rfl rfl ?_
    refine ex_aload_n dX6_readTape_8 rfl rfl ?_
    refine ex_getI (s := 8) (x := nI t.1) dX6_readTape_9 rfl qp_5_55 rfl rfl (ht3.1) ?_
    refine ex_callV (a := 0) (rest := []) dX6_readTape_12 rfl qp_5_59 rfl rfl rfl rfl rfl (Nat.le_of_ble_eq_true rfl) (hO) (by omega) ?_
    show Ex (qm_layT ++ ext) _ mX6_readTape 15 [some (.ref 4), none] [.int (nI (tpl t e))] σ1 _ _
    refine ex_istore_n (ls' := [some (.ref 4), some (.int (nI (tpl t e)))]) dX6_readTape_15 rfl (Nat.le_of_ble_eq_true rfl) rfl rfl ?_
    refine ex_aload_n dX6_readTape_16 rfl rfl ?_
    refine ex_iconst (x := 0) dX6_readTape_17 rfl rfl ?_
    refine ex_put (σ' := qm_wI σ1 8 0) dX6_readTape_18 rfl qp_5_55 rfl rfl (Or.inl rfl) rfl ?_
    refine ex_iload_n dX6_readTape_21 rfl rfl ?_
    refine ex_if_ge (q := 90) (q2 := 25) dX6_readTape_22 rfl rfl (fun _ => ?_) (fun hh => absurd (nI_pos' (by omega)) hh)
    refine ex_iload_n dX6_readTape_90 rfl rfl ?_
    exact ex_iret dX6_readTape_91 rfl rfl rfl
  | inr q =>
    rw [ef] at hO
    refine ⟨?_, hO.2⟩
    refine Ok.of (ls := [some (.ref 4), none]) (Nat.le_of_ble_eq_true rfl) rfl ?_
    refine ex_aload_n dX6_readTape_0 rfl rfl ?_
    refine ex_getR (b := 0) dX6_readTape_1 rfl qp_5_18 rfl rfl ?_
    refine ex_aload_n dX6_readTape_4 rfl rfl ?_
    refine ex_getR (b := 5) dX6_readTape_5 rfl qp_5_9 rfl rfl ?_
    refine ex_aload_n dX6_readTape_8 rfl rfl ?_
    refine ex_getI (s := 8) (x := nI t.1) dX6_readTape_9 rfl qp_5_55 rfl rfl (ht3.1) ?_
    refine ex_callV (a := 0) (rest := []) dX6_readTape_12 rfl qp_5_59 rfl rfl rfl rfl rfl (Nat.le_of_ble_eq_true rfl) (hO.1) (by omega) ?_
    show Ex (qm_layT ++ ext) _ mX6_readTape 15 [some (.ref 4), none] [.int (-1)] σ1 _ _
    refine ex_istore_n (ls' := [some (.ref 4), some (.int (-1))]) dX6_readTape_15 rfl (Nat.le_of_ble_eq_true rfl) rfl rfl ?_
    refine ex_aload_n dX6_readTape_16 rfl rfl ?_
    refine ex_iconst (x := 0) dX6_readTape_17 rfl rfl ?_
    refine ex_put (σ' := qm_wI σ1 8 0) dX6_readTape_18 rfl qp_5_55 rfl rfl (Or.inl rfl) rfl ?_
    refine ex_iload_n dX6_readTape_21 rfl rfl ?_
    refine ex_if_ge (q := 90) (q2 := 25) dX6_readTape_22 rfl rfl (fun hh => absurd hh (by decide)) (fun _ => ?_)
    refine ex_aload_n dX6_readTape_25 rfl rfl ?_
    refine ex_getI (s := 7) (x := nI s) dX6_readTape_26 rfl qp_5_63 rfl rfl (h71) ?_
    refine ex_bipush (x := 6) dX6_readTape_29 rfl rfl ?_
    refine ex_icmp_ge (q := 90) (q2 := 34) dX6_readTape_31 rfl rfl (fun hh => absurd hh (nI_ge (a := s) (b := 6) (by omega) (by omega))) (fun _ => ?_)
    refine ex_aload_n dX6_readTape_34 rfl rfl ?_
    refine ex_getR (b := 0) dX6_readTape_35 rfl qp_5_18 rfl rfl ?_
    refine ex_getR (b := 1) dX6_readTape_38 rfl qp_5_66 rfl rfl ?_
    refine ex_iconst (x := 0) dX6_readTape_41 rfl rfl ?_
    refine ex_aload_n dX6_readTape_42 rfl rfl ?_
    refine ex_getR (b := 8) dX6_readTape_43 rfl qp_5_24 rfl rfl ?_
    refine ex_aload_n dX6_readTape_46 rfl rfl ?_
    refine ex_getI (s := 7) (x := nI s) dX6_readTape_47 rfl qp_5_63 rfl rfl (h71) ?_
    refine ex_aaload (k := s) (r := 10 + s) dX6_readTape_50 rfl rfl (rfl) (by omega) (by decide) rfl ?_
    refine ex_iconst (x := 0) dX6_readTape_51 rfl rfl ?_
    refine ex_sipush (x := 160) dX6_readTape_52 rfl rfl ?_
    refine ex_copy (sk := 0) (dk := 0) (nk := 160) (σ' := qm_wR (qm_wI σ1 8 0) (6 + s) (va_cpy ((qm_wI σ1 8 0).2 0) ((qm_wI σ1 8 0).2 (6 + s)) 0 0 160)) dX6_readTape_55 rfl qp_5_69 rfl (layT_cd hs6) (rfl) (rfl) (rfl) (by decide) (by decide) (by decide) rfl ?_
    refine ex_aload_n dX6_readTape_58 rfl rfl ?_
    refine ex_getR (b := 0) dX6_readTape_59 rfl qp_5_18 rfl rfl ?_
    refine ex_getR (b := 2) dX6_readTape_62 rfl qp_5_75 rfl rfl ?_
    refine ex_iconst (x := 0) dX6_readTape_65 rfl rfl ?_
    refine ex_aload_n dX6_readTape_66 rfl rfl ?_
    refine ex_getR (b := 9) dX6_readTape_67 rfl qp_5_27 rfl rfl ?_
    refine ex_aload_n dX6_readTape_70 rfl rfl ?_
    refine ex_getI (s := 7) (x := nI s) dX6_readTape_71 rfl qp_5_63 rfl rfl (h71) ?_
    refine ex_aaload (k := s) (r := 16 + s) dX6_readTape_74 rfl rfl (rfl) (by omega) (by decide) rfl ?_
    refine ex_iconst (x := 0) dX6_readTape_75 rfl rfl ?_
    refine ex_iconst (x := 4) dX6_readTape_76 rfl rfl ?_
    refine ex_copy (sk := 0) (dk := 0) (nk := 4) (σ' := qm_wR (qm_wR (qm_wI σ1 8 0) (6 + s) (va_cpy ((qm_wI σ1 8 0).2 0) ((qm_wI σ1 8 0).2 (6 + s)) 0 0 160)) (12 + s) (va_cpy ((qm_wR (qm_wI σ1 8 0) (6 + s) (va_cpy ((qm_wI σ1 8 0).2 0) ((qm_wI σ1 8 0).2 (6 + s)) 0 0 160)).2 1) ((qm_wR (qm_wI σ1 8 0) (6 + s) (va_cpy ((qm_wI σ1 8 0).2 0) ((qm_wI σ1 8 0).2 (6 + s)) 0 0 160)).2 (12 + s)) 0 0 4)) dX6_readTape_77 rfl qp_5_69 rfl (layT_st hs6) (rfl) (rfl) (rfl) (by decide) (by decide) (by decide) rfl ?_
    refine ex_aload_n dX6_readTape_80 rfl rfl ?_
    refine ex_dup dX6_readTape_81 rfl rfl ?_
    refine ex_getI (s := 7) (x := nI s) dX6_readTape_82 rfl qp_5_63 rfl rfl (h71) ?_
    refine ex_iconst (x := 1) dX6_readTape_85 rfl rfl ?_
    refine ex_iadd (z := nI (s + 1)) dX6_readTape_86 rfl (nI_add s 1) ?_
    refine ex_put (σ' := qm_wI (qm_wR (qm_wR (qm_wI σ1 8 0) (6 + s) (va_cpy ((qm_wI σ1 8 0).2 0) ((qm_wI σ1 8 0).2 (6 + s)) 0 0 160)) (12 + s) (va_cpy ((qm_wR (qm_wI σ1 8 0) (6 + s) (va_cpy ((qm_wI σ1 8 0).2 0) ((qm_wI σ1 8 0).2 (6 + s)) 0 0 160)).2 1) ((qm_wR (qm_wI σ1 8 0) (6 + s) (va_cpy ((qm_wI σ1 8 0).2 0) ((qm_wI σ1 8 0).2 (6 + s)) 0 0 160)).2 (12 + s)) 0 0 4)) 7 (nI (s + 1))) dX6_readTape_87 rfl qp_5_63 rfl rfl (Or.inl rfl) rfl ?_
    refine ex_iload_n dX6_readTape_90 rfl rfl ?_
    exact ex_iret dX6_readTape_91 rfl rfl rfl

