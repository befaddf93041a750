/-! ===== the other side reads a part ===== -/
/-- a sign held, as it is written there -/
def hm (s : Nat) : Nat := if s = 0 then 0 else gx_m s
def okS (s : Nat) : Prop := s = 0 ∨ s = 20007 ∨ s = 20008 ∨ s = 20009 ∨ s = 20060 ∨ s = 20061 ∨ s = 20043 ∨ s = 20045 ∨ s = 20042 ∨ s = 20010
def op1 (s : Nat) : Nat := if s = 0 ∨ s = 20009 ∨ s = 20010 then 1 else 0
theorem okS_i {s : Nat} (h : okS s) : hm s < 20 ∧ (hm s = 13 ↔ s = 20009) ∧ (hm s = 19 ↔ s = 20010) ∧ rk s ≤ 7 ∧ (rk s = 0 ↔ s = 0) ∧ (s ≠ 0 → opd s = op1 s) ∧ op1 s ≤ 1 ∧ opd s ≤ op1 s := by
  rcases h with e | e | e | e | e | e | e | e | e | e <;> (subst e; exact ⟨by decide, by decide, by decide, by decide, by decide, by decide, by decide, by decide⟩)
theorem okS_op {c : Nat} (h : isop c = true) : okS (20000 + c) ∧ op1 (20000 + c) = 0 ∧ c < 256 ∧ (decide (rk (20000 + c) ≤ 2) = decide (hm (20000 + c) ≤ 12)) ∧ 1 ≤ ru c ∧ ru c ≤ 6 ∧ rk (20000 + c) < 7 := by
  have hc : c = 42 ∨ c = 43 ∨ c = 45 ∨ c = 8 ∨ c = 7 ∨ c = 60 ∨ c = 61 := by
    unfold isop oM oP oA oO oC at h
    simp only [Bool.or_eq_true, decide_eq_true_eq] at h
    omega
  rcases hc with e | e | e | e | e | e | e <;> (subst e; exact ⟨by unfold okS; omega, by decide, by decide, by decide, by decide, by decide, by decide⟩)
def HC (σ : qm_St) : List Nat → Prop
  | [] => True
  | s :: H => okS s ∧ qm_rF σ 56 H.length = nI (hm s) ∧ HC σ H
def osum : List Nat → Nat
  | [] => 0
  | s :: H => osum H + op1 s
theorem osum_le {σ : qm_St} : ∀ {H : List Nat}, HC σ H → osum H ≤ H.length
  | [], _ => Nat.le_refl 0
  | s :: H, h => by
    have := osum_le h.2.2
    have := (okS_i h.1).2.2.2.2.2.2.1
    rw [osum, List.length_cons]; omega
/-- what keeps -/
def sq (i1 n : Nat) (σ σ' : qm_St) : Prop := (∀ s, (s < i1 ∨ 43 ≤ s) → qm_rI σ' s = qm_rI σ s) ∧ (∀ j, j ≠ 48 → j ≠ 56 → ∀ k, qm_rF σ' j k = qm_rF σ j k) ∧ ∀ q, q < 200 * n → qm_rF σ' 48 q = qm_rF σ 48 q
theorem sq.rf (i1 n : Nat) (σ : qm_St) : sq i1 n σ σ := ⟨fun _ _ => rfl, fun _ _ _ _ => rfl, fun _ _ => rfl⟩
theorem sq.tr {i1 n : Nat} {a b c : qm_St} (h : sq i1 n a b) (g : sq i1 n b c) : sq i1 n a c := ⟨fun s hs => (g.1 s hs).trans (h.1 s hs), fun j h1 h2 k => (g.2.1 j h1 h2 k).trans (h.2.1 j h1 h2 k), fun q hq => (g.2.2 q hq).trans (h.2.2 q hq)⟩
theorem sq.wid {i1 i2 n : Nat} {a b : qm_St} (h : sq i1 n a b) (hi : i2 ≤ i1) : sq i2 n a b := ⟨fun s hs => h.1 s (by omega), h.2⟩
theorem sq.wI {i1 n : Nat} {a b : qm_St} (h : sq i1 n a b) {s : Nat} (v : Int32) (hs : i1 ≤ s ∧ s < 43) : sq i1 n a (qm_wI b s v) := ⟨fun t ht => by rw [rI_wI, if_neg (by omega)]; exact h.1 t ht, fun j h1 h2 k => h.2.1 j h1 h2 k, fun q hq => h.2.2 q hq⟩
theorem sq.wF56 {i1 n : Nat} {a b : qm_St} (h : sq i1 n a b) (i : Nat) (v : Int32) : sq i1 n a (qm_wF b 56 i v) := ⟨h.1, fun j h1 h2 k => by rw [rF_ne (Or.inl h2)]; exact h.2.1 j h1 h2 k, fun q hq => by rw [rF_ne (Or.inl (by decide))]; exact h.2.2 q hq⟩
theorem sq.wF48 {i1 n : Nat} {a b : qm_St} (h : sq i1 n a b) {i : Nat} (hi : 200 * n ≤ i) (v : Int32) : sq i1 n a (qm_wF b 48 i v) := ⟨h.1, fun j h1 h2 k => by rw [rF_ne (Or.inl h1)]; exact h.2.1 j h1 h2 k, fun q hq => by rw [rF_ne (Or.inr (by omega))]; exact h.2.2 q hq⟩
theorem sq.of {i1 n : Nat} {a b : qm_St} (h : sm a b 36 40 0 0) (hi : i1 ≤ 36) : sq i1 n a b := ⟨fun s hs => h.1 s (by omega), fun j _ _ k => h.2 j (by omega) k, fun q _ => h.2 48 (by omega) q⟩
/-- what is held -/
def HS (n : Nat) (σ : qm_St) (u : uS) : Prop := qm_rI σ 30 = nI n ∧ qm_rI σ 40 = nI u.1.length ∧ HC σ u.1 ∧ u.2.1 = osum u.1 ∧ qm_rI σ 41 = nI u.2.1 ∧ qm_rI σ 42 = nI u.2.2.length ∧ ∀ k, k < u.2.2.length → qm_rF σ 48 (200 * n + k) = nI (gx_m (u.2.2.getD k 0))
theorem HC.ext {σ σ' : qm_St} : ∀ {H : List Nat}, HC σ H → (∀ k, k < H.length → qm_rF σ' 56 k = qm_rF σ 56 k) → HC σ' H
  | [], _, _ => trivial
  | s :: H, h, g => ⟨h.1, by rw [g _ (by rw [List.length_cons]; omega)]; exact h.2.1, HC.ext h.2.2 fun k hk => g k (by rw [List.length_cons]; omega)⟩
theorem HS.sm {n : Nat} {σ σ' : qm_St} {u : uS} (h : HS n σ u) (g : sm σ σ' 36 40 0 0) : HS n σ' u := ⟨by rw [g.1 _ (by omega)]; exact h.1, by rw [g.1 _ (by omega)]; exact h.2.1, h.2.2.1.ext fun k _ => g.2 56 (by omega) k, h.2.2.2.1, by rw [g.1 _ (by omega)]; exact h.2.2.2.2.1, by rw [g.1 _ (by omega)]; exact h.2.2.2.2.2.1, fun k hk => by rw [g.2 48 (by omega)]; exact h.2.2.2.2.2.2 k hk⟩
/-- a step is put -/
theorem HS.put {n : Nat} {σ : qm_St} {H : List Nat} {o : Nat} {cs : List Nat} (h : HS n σ (H, o, cs)) (c : Nat) : HS n (qm_wI (qm_wF σ 48 (200 * n + cs.length) (nI (gx_m c))) 42 (nI (cs.length + 1))) (H, o, cs ++ [c]) := by
  refine ⟨h.1, h.2.1, h.2.2.1.ext fun k _ => by rw [rF_wI, rF_ne (Or.inl (by decide))], h.2.2.2.1, h.2.2.2.2.1, ?_, fun k hk => ?_⟩
  · rw [rI_wI, if_pos rfl]
    show nI (cs.length + 1) = nI (cs ++ [c]).length
    rw [List.length_append]; rfl
  · have hk2 : k < (cs ++ [c]).length := hk
    rw [List.length_append] at hk2
    have hk3 : k < cs.length + 1 := hk2
    show qm_rF _ 48 (200 * n + k) = nI (gx_m ((cs ++ [c]).getD k 0))
    rw [rF_wI]
    by_cases e : k = cs.length
    · rw [e, rF_eq, List.getD_eq_getElem?_getD, List.getElem?_append_right (Nat.le_refl _), Nat.sub_self]; rfl
    · rw [rF_ne (Or.inr (by omega)), List.getD_eq_getElem?_getD, List.getElem?_append_left (by omega), ← List.getD_eq_getElem?_getD]
      exact h.2.2.2.2.2.2 k (show k < cs.length by omega)
/-- a sign is held -/
theorem HS.hold {n : Nat} {σ : qm_St} {H : List Nat} {o : Nat} {cs : List Nat} (h : HS n σ (H, o, cs)) {s : Nat} (hs : okS s) (h0 : op1 s = 0) : HS n (qm_wI (qm_wF σ 56 H.length (nI (hm s))) 40 (nI (H.length + 1))) (s :: H, o, cs) := by
  refine ⟨h.1, by rw [rI_wI, if_pos rfl]; rfl, ⟨hs, by rw [rF_wI, rF_eq], h.2.2.1.ext fun k hk => by rw [rF_wI, rF_ne (Or.inr (by have : k < H.length := hk; omega))]⟩, ?_, h.2.2.2.2.1, h.2.2.2.2.2.1, fun k hk => ?_⟩
  · show o = osum H + op1 s
    rw [h0]; exact h.2.2.2.1
  · rw [rF_wI, rF_ne (Or.inl (by decide))]; exact h.2.2.2.2.2.2 k hk
/-- one more is open -/
theorem HS.open_ {n : Nat} {σ : qm_St} {H : List Nat} {o : Nat} {cs : List Nat} (h : HS n σ (H, o, cs)) {s : Nat} (hs : okS s) (h1 : op1 s = 1) : HS n (qm_wI (qm_wF (qm_wI σ 41 (nI (o + 1))) 56 H.length (nI (hm s))) 40 (nI (H.length + 1))) (s :: H, o + 1, cs) := by
  refine ⟨h.1, by rw [rI_wI, if_pos rfl]; rfl, ⟨hs, by rw [rF_wI, rF_eq], h.2.2.1.ext fun k hk => by rw [rF_wI, rF_ne (Or.inr (by have : k < H.length := hk; omega))]; rfl⟩, ?_, by rw [rI_wI, if_neg (by decide), rI_wF, rI_wI, if_pos rfl], h.2.2.2.2.2.1, fun k hk => ?_⟩
  · show o + 1 = osum H + op1 s
    rw [h1, show o = osum H from h.2.2.2.1]
  · rw [rF_wI, rF_ne (Or.inl (by decide))]; exact h.2.2.2.2.2.2 k hk
/-- one is taken off -/
theorem HS.pop {n : Nat} {σ : qm_St} {s : Nat} {H : List Nat} {o : Nat} {cs : List Nat} (h : HS n σ (s :: H, o, cs)) : HS n (qm_wI (qm_wI σ 40 (nI H.length)) 41 (nI (o - op1 s))) (H, o - op1 s, cs) := by
  refine ⟨h.1, by rw [rI_wI, if_neg (by decide), rI_wI, if_pos rfl], h.2.2.1.2.2.ext fun k _ => rfl, ?_, by rw [rI_wI, if_pos rfl], h.2.2.2.2.2.1, fun k hk => h.2.2.2.2.2.2 k hk⟩
  show o - op1 s = osum H
  have e : o = osum H + op1 s := h.2.2.2.1
  omega
theorem unw_len (k : Nat) : ∀ (H : List Nat) (o : Nat) (cs : List Nat), (unw k H o cs).2.2.length + (unw k H o cs).1.length = cs.length + H.length
  | [], _, _ => rfl
  | s :: H, o, cs => by
    rw [unw]
    split
    · rw [unw_len k H, List.length_append, List.length_singleton, List.length_cons]; omega
    · rfl
/-- the token i stands ahead; and: it comes next -/
def CUR (t : gt_T) (n : Nat) (σ : qm_St) (i : Nat) (u : uS) : Prop := PM σ t ∧ KW σ ∧ LXM σ (tks t i) ∧ HS n σ u
def INV (t : gt_T) (n : Nat) (σ : qm_St) (i : Nat) (u : uS) : Prop := PM σ t ∧ KW σ ∧ qm_rI σ 36 = nI (tpo t i) ∧ HS n σ u
theorem LXM.sq {n : Nat} {σ σ' : qm_St} {L : Nat × Nat × Nat × Nat} (h : LXM σ L) (g : sq 40 n σ σ') : LXM σ' L := ⟨by rw [g.1 _ (by omega)]; exact h.1, by rw [g.1 _ (by omega)]; exact h.2.1, fun z => by rw [g.1 _ (by omega)]; exact h.2.2.1 z, fun z => by rw [g.1 _ (by omega)]; exact h.2.2.2.1 z, fun z => by rw [g.1 _ (by omega)]; exact h.2.2.2.2 z⟩
theorem PM.sq {i1 n : Nat} {t : gt_T} {σ σ' : qm_St} (h : PM σ t) (g : sq i1 n σ σ') (hi : 30 ≤ i1) : PM σ' t := ⟨by rw [g.1 _ (by omega)]; exact h.1, fun i hi2 => by rw [g.2.1 47 (by decide) (by decide)]; exact h.2 i hi2⟩
theorem KW.sq {i1 n : Nat} {σ σ' : qm_St} (h : KW σ) (g : sq i1 n σ σ') : KW σ' := fun i hi => by rw [g.2.1 55 (by decide) (by decide)]; exact h i hi
theorem CUR.mk {t : gt_T} {n : Nat} {σ σ' : qm_St} {i : Nat} {u u' : uS} (h : CUR t n σ i u) (g : sq 40 n σ σ') (hh : HS n σ' u') : CUR t n σ' i u' := ⟨h.1.sq g (by omega), h.2.1.sq g, h.2.2.1.sq g, hh⟩
theorem CUR.inv {t : gt_T} {n : Nat} {σ : qm_St} {i : Nat} {u : uS} (h : CUR t n σ i u) (h3 : tk t i ≠ 3) : INV t n σ (i + 1) u := ⟨h.1, h.2.1, h.2.2.1.2.2.2.2 h3, h.2.2.2⟩
theorem nextM {t : gt_T} (hk : gt_ok t) {n : Nat} {σ : qm_St} {i : Nat} {u : uS} (h : INV t n σ i u) : ∃ σ', Ok qm_lay 1 mX9_next [.ref 55] σ none σ' ∧ CUR t n σ' i u ∧ sq 36 n σ σ' := by
  obtain ⟨σ1, hO, hL, hs⟩ := k_next hk h.1 h.2.1 (tpo_le t i) h.2.2.1
  rw [← tks_lx] at hL
  have g : sq 36 n σ σ1 := sq.of hs (Nat.le_refl _)
  exact ⟨σ1, hO, ⟨h.1.sq g (by omega), h.2.1.sq g, hL, h.2.2.2.sm hs⟩, g⟩
theorem rtk_k : ∀ c, c < 256 → (rtk c = 1 ↔ c = 1) ∧ (rtk c = 2 ↔ c = 2) ∧ (rtk c = 6 ↔ c = 9) ∧ (rtk c = 45 ↔ c = 45) ∧ (rtk c = 40 ↔ c = 40) ∧ (rtk c = 59 ↔ c = 59) ∧ (rtk c = 41 ↔ c = 41) ∧ (rtk c = 3 ↔ 4 ≤ c ∧ c < 7) ∧ (rtk c = 0 ↔ c = 0) := by decide +kernel
theorem rtk_o : ∀ c, c < 256 → isop c = false → rtk c ≠ 4 ∧ rtk c ≠ 5 ∧ rtk c ≠ 60 ∧ rtk c ≠ 61 ∧ rtk c ≠ 43 ∧ rtk c ≠ 45 ∧ rtk c ≠ 42 := by decide +kernel
/-- the end of a part -/
def okv (r : tR) : Bool := match r with
  | .inl _ => false
  | .inr _ => true
def RMN (t : gt_T) (n : Nat) (σ : qm_St) (i : Nat) (c : List Nat) : Prop := PM σ t ∧ KW σ ∧ qm_rI σ 36 = nI (tpo t i) ∧ qm_rI σ 30 = nI n ∧ qm_rI σ 42 = nI c.length ∧ ∀ k, k < c.length → qm_rF σ 48 (200 * n + k) = nI (gx_m (c.getD k 0))
def PPM (t : gt_T) (n : Nat) (σ : qm_St) (r : tR) : Prop := match r with
  | .inl e => qm_rI σ 37 = nI (tpl t e)
  | .inr (j, c) => RMN t n σ (j + 1) c
theorem INV.rmn {t : gt_T} {n : Nat} {σ : qm_St} {i : Nat} {u : uS} (h : INV t n σ i u) : RMN t n σ i u.2.2 := ⟨h.1, h.2.1, h.2.2.1, h.2.2.2.1, h.2.2.2.2.2.2.2.2.1, h.2.2.2.2.2.2.2.2.2⟩

set_option maxRecDepth 8000 in
set_option maxHeartbeats 2000000 in
theorem k_rank {lay : List qm_LE} (σ : qm_St) {s : Nat} (hs : okS s) : Ok lay 0 mX9_rank [.int (nI (hm s))] σ (some (.int (nI (rk s)))) σ := by
  rcases hs with e | e | e | e | e | e | e | e | e | e
  · subst e
    refine Ok.of (ls := [some (.int 0)]) (Nat.le_of_ble_eq_true rfl) rfl ?_
    refine ex_iload_n dX9_rank_0 rfl rfl ?_
    refine ex_if_ne (q := 8) (q2 := 4) dX9_rank_1 rfl rfl (fun hh => absurd hh (by decide)) (fun _ => ?_)
    refine ex_iconst (x := 0) dX9_rank_4 rfl rfl ?_
    refine ex_goto (q := 71) dX9_rank_5 rfl ?_
    exact ex_iret dX9_rank_71 rfl rfl rfl
  · subst e
    refine Ok.of (ls := [some (.int 11)]) (Nat.le_of_ble_eq_true rfl) rfl ?_
    refine ex_iload_n dX9_rank_0 rfl rfl ?_
    refine ex_if_ne (q := 8) (q2 := 4) dX9_rank_1 rfl rfl (fun _ => ?_) (fun hh => absurd (by decide) hh)
    refine ex_iload_n dX9_rank_8 rfl rfl ?_
    refine ex_bipush (x := 11) dX9_rank_9 rfl rfl ?_
    refine ex_icmp_ne (q := 18) (q2 := 14) dX9_rank_11 rfl rfl (fun hh => absurd hh (by decide)) (fun _ => ?_)
    refine ex_iconst (x := 1) dX9_rank_14 rfl rfl ?_
    refine ex_goto (q := 71) dX9_rank_15 rfl ?_
    exact ex_iret dX9_rank_71 rfl rfl rfl
  · subst e
    refine Ok.of (ls := [some (.int 12)]) (Nat.le_of_ble_eq_true rfl) rfl ?_
    refine ex_iload_n dX9_rank_0 rfl rfl ?_
    refine ex_if_ne (q := 8) (q2 := 4) dX9_rank_1 rfl rfl (fun _ => ?_) (fun hh => absurd (by decide) hh)
    refine ex_iload_n dX9_rank_8 rfl rfl ?_
    refine ex_bipush (x := 11) dX9_rank_9 rfl rfl ?_
    refine ex_icmp_ne (q := 18) (q2 := 14) dX9_rank_11 rfl rfl (fun _ => ?_) (fun hh => absurd (by decide) hh)
    refine ex_iload_n dX9_rank_18 rfl rfl ?_
    refine ex_bipush (x := 12) dX9_rank_19 rfl rfl ?_
    refine ex_icmp_ne (q := 28) (q2 := 24) dX9_rank_21 rfl rfl (fun hh => absurd hh (by decide)) (fun _ => ?_)
    refine ex_iconst (x := 2) dX9_rank_24 rfl rfl ?_
    refine ex_goto (q := 71) dX9_rank_25 rfl ?_
    exact ex_iret dX9_rank_71 rfl rfl rfl
  · subst e
    refine Ok.of (ls := [some (.int 13)]) (Nat.le_of_ble_eq_true rfl) rfl ?_
    refine ex_iload_n dX9_rank_0 rfl rfl ?_
    refine ex_if_ne (q := 8) (q2 := 4) dX9_rank_1 rfl rfl (fun _ => ?_) (fun hh => absurd (by decide) hh)
    refine ex_iload_n dX9_rank_8 rfl rfl ?_
    refine ex_bipush (x := 11) dX9_rank_9 rfl rfl ?_
    refine ex_icmp_ne (q := 18) (q2 := 14) dX9_rank_11 rfl rfl (fun _ => ?_) (fun hh => absurd (by decide) hh)
    refine ex_iload_n dX9_rank_18 rfl rfl ?_
    refine ex_bipush (x := 12) dX9_rank_19 rfl rfl ?_
    refine ex_icmp_ne (q := 28) (q2 := 24) dX9_rank_21 rfl rfl (fun _ => ?_) (fun hh => absurd (by decide) hh)
    refine ex_iload_n dX9_rank_28 rfl rfl ?_
    refine ex_bipush (x := 13) dX9_rank_29 rfl rfl ?_
    refine ex_icmp_ne (q := 38) (q2 := 34) dX9_rank_31 rfl rfl (fun hh => absurd hh (by decide)) (fun _ => ?_)
    refine ex_iconst (x := 3) dX9_rank_34 rfl rfl ?_
    refine ex_goto (q := 71) dX9_rank_35 rfl ?_
    exact ex_iret dX9_rank_71 rfl rfl rfl
  · subst e
    refine Ok.of (ls := [some (.int 14)]) (Nat.le_of_ble_eq_true rfl) rfl ?_
    refine ex_iload_n dX9_rank_0 rfl rfl ?_
    refine ex_if_ne (q := 8) (q2 := 4) dX9_rank_1 rfl rfl (fun _ => ?_) (fun hh => absurd (by decide) hh)
    refine ex_iload_n dX9_rank_8 rfl rfl ?_
    refine ex_bipush (x := 11) dX9_rank_9 rfl rfl ?_
    refine ex_icmp_ne (q := 18) (q2 := 14) dX9_rank_11 rfl rfl (fun _ => ?_) (fun hh => absurd (by decide) hh)
    refine ex_iload_n dX9_rank_18 rfl rfl ?_
    refine ex_bipush (x := 12) dX9_rank_19 rfl rfl ?_
    refine ex_icmp_ne (q := 28) (q2 := 24) dX9_rank_21 rfl rfl (fun _ => ?_) (fun hh => absurd (by decide) hh)
    refine ex_iload_n dX9_rank_28 rfl rfl ?_
    refine ex_bipush (x := 13) dX9_rank_29 rfl rfl ?_
    refine ex_icmp_ne (q := 38) (q2 := 34) dX9_rank_31 rfl rfl (fun _ => ?_) (fun hh => absurd (by decide) hh)
    refine ex_iload_n dX9_rank_38 rfl rfl ?_
    refine ex_bipush (x := 15) dX9_rank_39 rfl rfl ?_
    refine ex_icmp_gt (q := 48) (q2 := 44) dX9_rank_41 rfl rfl (fun hh => absurd hh (by decide)) (fun _ => ?_)
    refine ex_iconst (x := 4) dX9_rank_44 rfl rfl ?_
    refine ex_goto (q := 71) dX9_rank_45 rfl ?_
    exact ex_iret dX9_rank_71 rfl rfl rfl
  · subst e
    refine Ok.of (ls := [some (.int 15)]) (Nat.le_of_ble_eq_true rfl) rfl ?_
    refine ex_iload_n dX9_rank_0 rfl rfl ?_
    refine ex_if_ne (q := 8) (q2 := 4) dX9_rank_1 rfl rfl (fun _ => ?_) (fun hh => absurd (by decide) hh)
    refine ex_iload_n dX9_rank_8 rfl rfl ?_
    refine ex_bipush (x := 11) dX9_rank_9 rfl rfl ?_
    refine ex_icmp_ne (q := 18) (q2 := 14) dX9_rank_11 rfl rfl (fun _ => ?_) (fun hh => absurd (by decide) hh)
    refine ex_iload_n dX9_rank_18 rfl rfl ?_
    refine ex_bipush (x := 12) dX9_rank_19 rfl rfl ?_
    refine ex_icmp_ne (q := 28) (q2 := 24) dX9_rank_21 rfl rfl (fun _ => ?_) (fun hh => absurd (by decide) hh)
    refine ex_iload_n dX9_rank_28 rfl rfl ?_
    refine ex_bipush (x := 13) dX9_rank_29 rfl rfl ?_
    refine ex_icmp_ne (q := 38) (q2 := 34) dX9_rank_31 rfl rfl (fun _ => ?_) (fun hh => absurd (by decide) hh)
    refine ex_iload_n dX9_rank_38 rfl rfl ?_
    refine ex_bipush (x := 15) dX9_rank_39 rfl rfl ?_
    refine ex_icmp_gt (q := 48) (q2 := 44) dX9_rank_41 rfl rfl (fun hh => absurd hh (by decide)) (fun _ => ?_)
    refine ex_iconst (x := 4) dX9_rank_44 rfl rfl ?_
    refine ex_goto (q := 71) dX9_rank_45 rfl ?_
    exact ex_iret dX9_rank_71 rfl rfl rfl
  · subst e
    refine Ok.of (ls := [some (.int 16)]) (Nat.le_of_ble_eq_true rfl) rfl ?_
    refine ex_iload_n dX9_rank_0 rfl rfl ?_
    refine ex_if_ne (q := 8) (q2 := 4) dX9_rank_1 rfl rfl (fun _ => ?_) (fun hh => absurd (by decide) hh)
    refine ex_iload_n dX9_rank_8 rfl rfl ?_
    refine ex_bipush (x := 11) dX9_rank_9 rfl rfl ?_
    refine ex_icmp_ne (q := 18) (q2 := 14) dX9_rank_11 rfl rfl (fun _ => ?_) (fun hh => absurd (by decide) hh)
    refine ex_iload_n dX9_rank_18 rfl rfl ?_
    refine ex_bipush (x := 12) dX9_rank_19 rfl rfl ?_
    refine ex_icmp_ne (q := 28) (q2 := 24) dX9_rank_21 rfl rfl (fun _ => ?_) (fun hh => absurd (by decide) hh)
    refine ex_iload_n dX9_rank_28 rfl rfl ?_
    refine ex_bipush (x := 13) dX9_rank_29 rfl rfl ?_
    refine ex_icmp_ne (q := 38) (q2 := 34) dX9_rank_31 rfl rfl (fun _ => ?_) (fun hh => absurd (by decide) hh)
    refine ex_iload_n dX9_rank_38 rfl rfl ?_
    refine ex_bipush (x := 15) dX9_rank_39 rfl rfl ?_
    refine ex_icmp_gt (q := 48) (q2 := 44) dX9_rank_41 rfl rfl (fun _ => ?_) (fun hh => absurd (by decide) hh)
    refine ex_iload_n dX9_rank_48 rfl rfl ?_
    refine ex_bipush (x := 17) dX9_rank_49 rfl rfl ?_
    refine ex_icmp_gt (q := 58) (q2 := 54) dX9_rank_51 rfl rfl (fun hh => absurd hh (by decide)) (fun _ => ?_)
    refine ex_iconst (x := 5) dX9_rank_54 rfl rfl ?_
    refine ex_goto (q := 71) dX9_rank_55 rfl ?_
    exact ex_iret dX9_rank_71 rfl rfl rfl
  · subst e
    refine Ok.of (ls := [some (.int 17)]) (Nat.le_of_ble_eq_true rfl) rfl ?_
    refine ex_iload_n dX9_rank_0 rfl rfl ?_
    refine ex_if_ne (q := 8) (q2 := 4) dX9_rank_1 rfl rfl (fun _ => ?_) (fun hh => absurd (by decide) hh)
    refine ex_iload_n dX9_rank_8 rfl rfl ?_
    refine ex_bipush (x := 11) dX9_rank_9 rfl rfl ?_
    refine ex_icmp_ne (q := 18) (q2 := 14) dX9_rank_11 rfl rfl (fun _ => ?_) (fun hh => absurd (by decide) hh)
    refine ex_iload_n dX9_rank_18 rfl rfl ?_
    refine ex_bipush (x := 12) dX9_rank_19 rfl rfl ?_
    refine ex_icmp_ne (q := 28) (q2 := 24) dX9_rank_21 rfl rfl (fun _ => ?_) (fun hh => absurd (by decide) hh)
    refine ex_iload_n dX9_rank_28 rfl rfl ?_
    refine ex_bipush (x := 13) dX9_rank_29 rfl rfl ?_
    refine ex_icmp_ne (q := 38) (q2 := 34) dX9_rank_31 rfl rfl (fun _ => ?_) (fun hh => absurd (by decide) hh)
    refine ex_iload_n dX9_rank_38 rfl rfl ?_
    refine ex_bipush (x := 15) dX9_rank_39 rfl rfl ?_
    refine ex_icmp_gt (q := 48) (q2 := 44) dX9_rank_41 rfl rfl (fun _ => ?_) (fun hh => absurd (by decide) hh)
    refine ex_iload_n dX9_rank_48 rfl rfl ?_
    refine ex_bipush (x := 17) dX9_rank_49 rfl rfl ?_
    refine ex_icmp_gt (q := 58) (q2 := 54) dX9_rank_51 rfl rfl (fun hh => absurd hh (by decide)) (fun _ => ?_)
    refine ex_iconst (x := 5) dX9_rank_54 rfl rfl ?_
    refine ex_goto (q := 71) dX9_rank_55 rfl ?_
    exact ex_iret dX9_rank_71 rfl rfl rfl
  · subst e
    refine Ok.of (ls := [some (.int 18)]) (Nat.le_of_ble_eq_true rfl) rfl ?_
    refine ex_iload_n dX9_rank_0 rfl rfl ?_
    refine ex_if_ne (q := 8) (q2 := 4) dX9_rank_1 rfl rfl (fun _ => ?_) (fun hh => absurd (by decide) hh)
    refine ex_iload_n dX9_rank_8 rfl rfl ?_
    refine ex_bipush (x := 11) dX9_rank_9 rfl rfl ?_
    refine ex_icmp_ne (q := 18) (q2 := 14) dX9_rank_11 rfl rfl (fun _ => ?_) (fun hh => absurd (by decide) hh)
    refine ex_iload_n dX9_rank_18 rfl rfl ?_
    refine ex_bipush (x := 12) dX9_rank_19 rfl rfl ?_
    refine ex_icmp_ne (q := 28) (q2 := 24) dX9_rank_21 rfl rfl (fun _ => ?_) (fun hh => absurd (by decide) hh)
    refine ex_iload_n dX9_rank_28 rfl rfl ?_
    refine ex_bipush (x := 13) dX9_rank_29 rfl rfl ?_
    refine ex_icmp_ne (q := 38) (q2 := 34) dX9_rank_31 rfl rfl (fun _ => ?_) (fun hh => absurd (by decide) hh)
    refine ex_iload_n dX9_rank_38 rfl rfl ?_
    refine ex_bipush (x := 15) dX9_rank_39 rfl rfl ?_
    refine ex_icmp_gt (q := 48) (q2 := 44) dX9_rank_41 rfl rfl (fun _ => ?_) (fun hh => absurd (by decide) hh)
    refine ex_iload_n dX9_rank_48 rfl rfl ?_
    refine ex_bipush (x := 17) dX9_rank_49 rfl rfl ?_
    refine ex_icmp_gt (q := 58) (q2 := 54) dX9_rank_51 rfl rfl (fun _ => ?_) (fun hh => absurd (by decide) hh)
    refine ex_iload_n dX9_rank_58 rfl rfl ?_
    refine ex_bipush (x := 18) dX9_rank_59 rfl rfl ?_
    refine ex_icmp_ne (q := 69) (q2 := 64) dX9_rank_61 rfl rfl (fun hh => absurd hh (by decide)) (fun _ => ?_)
    refine ex_bipush (x := 6) dX9_rank_64 rfl rfl ?_
    refine ex_goto (q := 71) dX9_rank_66 rfl ?_
    exact ex_iret dX9_rank_71 rfl rfl rfl
  · subst e
    refine Ok.of (ls := [some (.int 19)]) (Nat.le_of_ble_eq_true rfl) rfl ?_
    refine ex_iload_n dX9_rank_0 rfl rfl ?_
    refine ex_if_ne (q := 8) (q2 := 4) dX9_rank_1 rfl rfl (fun _ => ?_) (fun hh => absurd (by decide) hh)
    refine ex_iload_n dX9_rank_8 rfl rfl ?_
    refine ex_bipush (x := 11) dX9_rank_9 rfl rfl ?_
    refine ex_icmp_ne (q := 18) (q2 := 14) dX9_rank_11 rfl rfl (fun _ => ?_) (fun hh => absurd (by decide) hh)
    refine ex_iload_n dX9_rank_18 rfl rfl ?_
    refine ex_bipush (x := 12) dX9_rank_19 rfl rfl ?_
    refine ex_icmp_ne (q := 28) (q2 := 24) dX9_rank_21 rfl rfl (fun _ => ?_) (fun hh => absurd (by decide) hh)
    refine ex_iload_n dX9_rank_28 rfl rfl ?_
    refine ex_bipush (x := 13) dX9_rank_29 rfl rfl ?_
    refine ex_icmp_ne (q := 38) (q2 := 34) dX9_rank_31 rfl rfl (fun _ => ?_) (fun hh => absurd (by decide) hh)
    refine ex_iload_n dX9_rank_38 rfl rfl ?_
    refine ex_bipush (x := 15) dX9_rank_39 rfl rfl ?_
    refine ex_icmp_gt (q := 48) (q2 := 44) dX9_rank_41 rfl rfl (fun _ => ?_) (fun hh => absurd (by decide) hh)
    refine ex_iload_n dX9_rank_48 rfl rfl ?_
    refine ex_bipush (x := 17) dX9_rank_49 rfl rfl ?_
    refine ex_icmp_gt (q := 58) (q2 := 54) dX9_rank_51 rfl rfl (fun _ => ?_) (fun hh => absurd (by decide) hh)
    refine ex_iload_n dX9_rank_58 rfl rfl ?_
    refine ex_bipush (x := 18) dX9_rank_59 rfl rfl ?_
    refine ex_icmp_ne (q := 69) (q2 := 64) dX9_rank_61 rfl rfl (fun _ => ?_) (fun hh => absurd (by decide) hh)
    refine ex_bipush (x := 7) dX9_rank_69 rfl rfl ?_
    exact ex_iret dX9_rank_71 rfl rfl rfl

theorem k_puts {σ : qm_St} {n L : Nat} (h30 : qm_rI σ 30 = nI n) (h42 : qm_rI σ 42 = nI L) (hn : n < 6) (hL : L < 200) (v : Int32) : Ok qm_lay 0 mX9_puts [.ref 55, .int v] σ none (qm_wI (qm_wF σ 48 (200 * n + L) v) 42 (nI (L + 1))) := by
  refine Ok.of (ls := [some (.ref 55), some (.int v)]) (Nat.le_of_ble_eq_true rfl) rfl ?_
  refine ex_aload_n dX9_puts_0 rfl rfl ?_
  refine ex_getR (b := 62) dX9_puts_1 rfl qp_8_28 rfl rfl ?_
  refine ex_sipush (x := 200) dX9_puts_4 rfl rfl ?_
  refine ex_aload_n dX9_puts_7 rfl rfl ?_
  refine ex_getI (s := 30) (x := nI n) dX9_puts_8 rfl qp_8_105 rfl rfl (h30) ?_
  refine ex_imul (z := nI (200 * n)) dX9_puts_11 rfl (pk_mul 200 n) ?_
  refine ex_aload_n dX9_puts_12 rfl rfl ?_
  refine ex_getI (s := 42) (x := nI L) dX9_puts_13 rfl qp_8_130 rfl rfl (h42) ?_
  refine ex_iadd (z := nI ((200 * n) + L)) dX9_puts_16 rfl (nI_add (200 * n) L) ?_
  refine ex_iload_n dX9_puts_17 rfl rfl ?_
  refine ex_iastore (k := (200 * n) + L) (σ' := qm_wF σ 48 ((200 * n) + L) v) dX9_puts_18 rfl rfl (rfl) (by omega) (by decide) rfl ?_
  refine ex_aload_n dX9_puts_19 rfl rfl ?_
  refine ex_dup dX9_puts_20 rfl rfl ?_
  refine ex_getI (s := 42) (x := nI L) dX9_puts_21 rfl qp_8_130 rfl rfl (h42) ?_
  refine ex_iconst (x := 1) dX9_puts_24 rfl rfl ?_
  refine ex_iadd (z := nI (L + 1)) dX9_puts_25 rfl (nI_add L 1) ?_
  refine ex_put (σ' := qm_wI (qm_wF σ 48 ((200 * n) + L) v) 42 (nI (L + 1))) dX9_puts_26 rfl qp_8_130 rfl rfl (Or.inl rfl) rfl ?_
  exact ex_vret dX9_puts_29 rfl rfl rfl

theorem k_holds {σ : qm_St} {L : Nat} (h40 : qm_rI σ 40 = nI L) (hL : L < 200) (v : Int32) : Ok qm_lay 0 mX9_holds [.ref 55, .int v] σ none (qm_wI (qm_wF σ 56 L v) 40 (nI (L + 1))) := by
  refine Ok.of (ls := [some (.ref 55), some (.int v)]) (Nat.le_of_ble_eq_true rfl) rfl ?_
  refine ex_aload_n dX9_holds_0 rfl rfl ?_
  refine ex_getR (b := 70) dX9_holds_1 rfl qp_8_52 rfl rfl ?_
  refine ex_aload_n dX9_holds_4 rfl rfl ?_
  refine ex_getI (s := 40) (x := nI L) dX9_holds_5 rfl qp_8_133 rfl rfl (h40) ?_
  refine ex_iload_n dX9_holds_8 rfl rfl ?_
  refine ex_iastore (k := L) (σ' := qm_wF σ 56 L v) dX9_holds_9 rfl rfl (rfl) (by omega) (by decide) rfl ?_
  refine ex_aload_n dX9_holds_10 rfl rfl ?_
  refine ex_dup dX9_holds_11 rfl rfl ?_
  refine ex_getI (s := 40) (x := nI L) dX9_holds_12 rfl qp_8_133 rfl rfl (h40) ?_
  refine ex_iconst (x := 1) dX9_holds_15 rfl rfl ?_
  refine ex_iadd (z := nI (L + 1)) dX9_holds_16 rfl (nI_add L 1) ?_
  refine ex_put (σ' := qm_wI (qm_wF σ 56 L v) 40 (nI (L + 1))) dX9_holds_17 rfl qp_8_133 rfl rfl (Or.inl rfl) rfl ?_
  exact ex_vret dX9_holds_20 rfl rfl rfl

theorem putsC {t : gt_T} {n : Nat} (hn : n < 6) {σ : qm_St} {i : Nat} {H : List Nat} {o : Nat} {cs : List Nat} (h : CUR t n σ i (H, o, cs)) (hb : cs.length < 200) (c : Nat) : ∃ σ', Ok qm_lay 0 mX9_puts [.ref 55, .int (nI (gx_m c))] σ none σ' ∧ CUR t n σ' i (H, o, cs ++ [c]) ∧ sq 40 n σ σ' := by
  have g : sq 40 n σ (qm_wI (qm_wF σ 48 (200 * n + cs.length) (nI (gx_m c))) 42 (nI (cs.length + 1))) := ((sq.rf 40 n σ).wF48 (by omega) _).wI _ (by omega)
  exact ⟨_, k_puts h.2.2.2.1 h.2.2.2.2.2.2.2.2.1 hn hb _, h.mk g (h.2.2.2.put c), g⟩
theorem holdsC {t : gt_T} {n : Nat} (hn : n < 6) {σ : qm_St} {i : Nat} {H : List Nat} {o : Nat} {cs : List Nat} (h : CUR t n σ i (H, o, cs)) (hb : H.length < 200) {s : Nat} (hs : okS s) (h0 : op1 s = 0) : ∃ σ', Ok qm_lay 0 mX9_holds [.ref 55, .int (nI (hm s))] σ none σ' ∧ CUR t n σ' i (s :: H, o, cs) ∧ sq 40 n σ σ' := by
  have g : sq 40 n σ (qm_wI (qm_wF σ 56 H.length (nI (hm s))) 40 (nI (H.length + 1))) := ((sq.rf 40 n σ).wF56 _ _).wI _ (by omega)
  exact ⟨_, k_holds h.2.2.2.2.1 hb _, h.mk g (h.2.2.2.hold hs h0), g⟩
set_option maxRecDepth 8000 in
set_option maxHeartbeats 2000000 in
theorem opensC {t : gt_T} {n : Nat} (hn : n < 6) {σ : qm_St} {i : Nat} {H : List Nat} {o : Nat} {cs : List Nat} (h : CUR t n σ i (H, o, cs)) (hb : H.length < 200) {s : Nat} (hs : okS s) (h1 : op1 s = 1) : (o = 5 → Ok qm_lay 1 mX9_opensOne [.ref 55, .int (nI (hm s))] σ (some (.int 0)) σ) ∧ (o ≠ 5 → ∃ σ', Ok qm_lay 1 mX9_opensOne [.ref 55, .int (nI (hm s))] σ (some (.int 1)) σ' ∧ CUR t n σ' i (s :: H, o + 1, cs) ∧ sq 40 n σ σ') := by
  have h41 := h.2.2.2.2.2.2.2.1
  have ho : o ≤ H.length := by
    have e : o = osum H := h.2.2.2.2.2.2.1
    rw [e]; exact osum_le h.2.2.2.2.2.1
  refine ⟨fun c => ?_, fun c => ?_⟩
  · refine Ok.of (ls := [some (.ref 55), some (.int (nI (hm s)))]) (Nat.le_of_ble_eq_true rfl) rfl ?_
    refine ex_aload_n dX9_opensOne_0 rfl rfl ?_
    refine ex_getI (s := 41) (x := nI o) dX9_opensOne_1 rfl qp_8_139 rfl rfl (h41) ?_
    refine ex_iconst (x := 5) dX9_opensOne_4 rfl rfl ?_
    refine ex_icmp_ne (q := 10) (q2 := 8) dX9_opensOne_5 rfl rfl (fun hh => absurd hh (fun zz => zz (congrArg nI (show o = 5 by omega)))) (fun _ => ?_)
    refine ex_iconst (x := 0) dX9_opensOne_8 rfl rfl ?_
    exact ex_zret dX9_opensOne_9 rfl (by decide) rfl rfl
  · have g : sq 40 n σ (qm_wI (qm_wF (qm_wI σ 41 (nI (o + 1))) 56 H.length (nI (hm s))) 40 (nI (H.length + 1))) := (((sq.rf 40 n σ).wI (s := 41) _ (by omega)).wF56 _ _).wI _ (by omega)
    refine ⟨_, ?_, h.mk g (h.2.2.2.open_ hs h1), g⟩
    refine Ok.of (ls := [some (.ref 55), some (.int (nI (hm s)))]) (Nat.le_of_ble_eq_true rfl) rfl ?_
    refine ex_aload_n dX9_opensOne_0 rfl rfl ?_
    refine ex_getI (s := 41) (x := nI o) dX9_opensOne_1 rfl qp_8_139 rfl rfl (h41) ?_
    refine ex_iconst (x := 5) dX9_opensOne_4 rfl rfl ?_
    refine ex_icmp_ne (q := 10) (q2 := 8) dX9_opensOne_5 rfl rfl (fun _ => ?_) (fun hh => absurd (fun zz => absurd ((nI_eq (a := o) (b := 5) (by omega) (by omega)).mp zz) (by omega)) hh)
    refine ex_aload_n dX9_opensOne_10 rfl rfl ?_
    refine ex_dup dX9_opensOne_11 rfl rfl ?_
    refine ex_getI (s := 41) (x := nI o) dX9_opensOne_12 rfl qp_8_139 rfl rfl (h41) ?_
    refine ex_iconst (x := 1) dX9_opensOne_15 rfl rfl ?_
    refine ex_iadd (z := nI (o + 1)) dX9_opensOne_16 rfl (nI_add o 1) ?_
    refine ex_put (σ' := qm_wI σ 41 (nI (o + 1))) dX9_opensOne_17 rfl qp_8_139 rfl rfl (Or.inl rfl) rfl ?_
    refine ex_aload_n dX9_opensOne_20 rfl rfl ?_
    refine ex_iload_n dX9_opensOne_21 rfl rfl ?_
    refine ex_callV (a := 55) (rest := []) dX9_opensOne_22 rfl qp_8_146 rfl rfl rfl rfl rfl (Nat.le_of_ble_eq_true rfl) (k_holds (σ := qm_wI σ 41 (nI (o + 1))) h.2.2.2.2.1 hb _) (Nat.le_of_ble_eq_true rfl) ?_
    show Ex qm_lay _ mX9_opensOne 25 [some (.ref 55), some (.int (nI (hm s)))] [] (qm_wI (qm_wF (qm_wI σ 41 (nI (o + 1))) 56 H.length (nI (hm s))) 40 (nI (H.length + 1))) _ _
    refine ex_iconst (x := 1) dX9_opensOne_25 rfl rfl ?_
    exact ex_zret dX9_opensOne_26 rfl (by decide) rfl rfl

set_option maxRecDepth 8000 in
set_option maxHeartbeats 2000000 in
theorem l_unw {t : gt_T} {n : Nat} (hn : n < 6) {i k : Nat} (hk1 : 1 ≤ k) (hk7 : k ≤ 7) : ∀ (H : List Nat) (o : Nat) (cs : List Nat) (σ : qm_St) (x : Option Value), CUR t n σ i (H, o, cs) → cs.length + H.length < 200 → ∃ σ', Ex qm_lay 1 mX9_unwinds 0 [some (.ref 55), some (.int (nI k)), x] [] σ none σ' ∧ CUR t n σ' i (unw k H o cs) ∧ sq 40 n σ σ' := by
  intro H
  induction H with
  | nil =>
    intro o cs σ x h hb
    have h40 : qm_rI σ 40 = nI 0 := h.2.2.2.2.1
    refine ⟨σ, ?_, h, sq.rf _ _ _⟩
    refine ex_aload_n dX9_unwinds_0 rfl rfl ?_
    refine ex_getI (s := 40) (x := 0) dX9_unwinds_1 rfl qp_8_133 rfl rfl (h40) ?_
    refine ex_if_le (q := 79) (q2 := 7) dX9_unwinds_4 rfl rfl (fun _ => ?_) (fun hh => absurd (by decide) hh)
    exact ex_vret dX9_unwinds_79 rfl rfl rfl
  | cons s H ih =>
    intro o cs σ x h hb
    rw [List.length_cons] at hb
    obtain ⟨hs, h56, hH⟩ := h.2.2.2.2.2.1
    obtain ⟨i1, i2, i3, i4, i5, i6, i7, i8⟩ := okS_i hs
    have h40 : qm_rI σ 40 = nI (H.length + 1) := h.2.2.2.2.1
    have h41 := h.2.2.2.2.2.2.2.1
    have hR := k_rank (lay := qm_lay) σ hs
    have ho : o = osum H + op1 s := h.2.2.2.2.2.2.1
    have hol : osum H ≤ H.length := osum_le hH
    rw [unw]
    by_cases c : k ≤ rk s
    · rw [if_pos c]
      have hs0 : s ≠ 0 := fun z => by have := i5.mpr z; omega
      rw [i6 hs0] at i8 ⊢
      have eg : gx_m s = hm s := by unfold hm; rw [if_neg hs0]
      have g1 : sq 40 n σ (qm_wI (qm_wI σ 40 (nI H.length)) 41 (nI (o - op1 s))) := ((sq.rf 40 n σ).wI (s := 40) _ (by omega)).wI (s := 41) _ (by omega)
      have h1 : CUR t n (qm_wI (qm_wI σ 40 (nI H.length)) 41 (nI (o - op1 s))) i (H, o - op1 s, cs) := h.mk g1 h.2.2.2.pop
      obtain ⟨σ2, hO2, h2, g2⟩ := putsC hn h1 (by omega) s
      obtain ⟨σ', hE, h3, g3⟩ := ih (o - op1 s) (cs ++ [s]) σ2 (some (.int (nI (hm s)))) h2 (by rw [List.length_append, List.length_singleton]; omega)
      refine ⟨σ', ?_, h3, g1.tr (g2.tr g3)⟩
      rw [eg] at hO2
      by_cases c13 : s = 20009
      · have e13 := i2.mpr c13
        have eo : op1 s = 1 := by rw [c13]; rfl
        refine ex_aload_n dX9_unwinds_0 rfl rfl ?_
        refine ex_getI (s := 40) (x := nI (H.length + 1)) dX9_unwinds_1 rfl qp_8_133 rfl rfl (h40) ?_
        refine ex_if_le (q := 79) (q2 := 7) dX9_unwinds_4 rfl rfl (fun hh => absurd hh (Int32.not_le.mpr (nI_lt (a := 0) (b := H.length + 1) (by omega) (by omega)))) (fun _ => ?_)
        refine ex_aload_n dX9_unwinds_7 rfl rfl ?_
        refine ex_getR (b := 70) dX9_unwinds_8 rfl qp_8_52 rfl rfl ?_
        refine ex_aload_n dX9_unwinds_11 rfl rfl ?_
        refine ex_getI (s := 40) (x := nI (H.length + 1)) dX9_unwinds_12 rfl qp_8_133 rfl rfl (h40) ?_
        refine ex_iconst (x := 1) dX9_unwinds_15 rfl rfl ?_
        refine ex_isub (z := nI H.length) dX9_unwinds_16 rfl (pk_sub (a := H.length + 1) (b := 1) (by omega)) ?_
        refine ex_iaload (k := H.length) (x := nI (hm s)) dX9_unwinds_17 rfl rfl (rfl) (by omega) (by decide) (h56) ?_
        refine ex_callS (rest := []) dX9_unwinds_18 rfl qp_8_136 rfl rfl rfl (Nat.le_of_ble_eq_true rfl) (hR) (Nat.le_of_ble_eq_true rfl) ?_
        show Ex qm_lay _ mX9_unwinds 21 [some (.ref 55), some (.int (nI k)), x] [.int (nI (rk s))] σ _ _
        refine ex_iload_n dX9_unwinds_21 rfl rfl ?_
        refine ex_icmp_lt (q := 79) (q2 := 25) dX9_unwinds_22 rfl rfl (fun hh => absurd hh (nI_nlt (a := (rk s)) (b := k) (by omega) (by omega))) (fun _ => ?_)
        refine ex_aload_n dX9_unwinds_25 rfl rfl ?_
        refine ex_dup dX9_unwinds_26 rfl rfl ?_
        refine ex_getI (s := 40) (x := nI (H.length + 1)) dX9_unwinds_27 rfl qp_8_133 rfl rfl (h40) ?_
        refine ex_iconst (x := 1) dX9_unwinds_30 rfl rfl ?_
        refine ex_isub (z := nI H.length) dX9_unwinds_31 rfl (pk_sub (a := H.length + 1) (b := 1) (by omega)) ?_
        refine ex_put (σ' := qm_wI σ 40 (nI H.length)) dX9_unwinds_32 rfl qp_8_133 rfl rfl (Or.inl rfl) rfl ?_
        refine ex_aload_n dX9_unwinds_35 rfl rfl ?_
        refine ex_getR (b := 70) dX9_unwinds_36 rfl qp_8_52 rfl rfl ?_
        refine ex_aload_n dX9_unwinds_39 rfl rfl ?_
        refine ex_getI (s := 40) (x := nI H.length) dX9_unwinds_40 rfl qp_8_133 rfl rfl (rfl) ?_
        refine ex_iaload (k := H.length) (x := nI (hm s)) dX9_unwinds_43 rfl rfl (rfl) (by omega) (by decide) (h56) ?_
        refine ex_istore_n (ls' := [some (.ref 55), some (.int (nI k)), some (.int (nI (hm s)))]) dX9_unwinds_44 rfl (Nat.le_of_ble_eq_true rfl) rfl rfl ?_
        refine ex_aload_n dX9_unwinds_45 rfl rfl ?_
        refine ex_dup dX9_unwinds_46 rfl rfl ?_
        refine ex_getI (s := 41) (x := nI o) dX9_unwinds_47 rfl qp_8_139 rfl rfl (h41) ?_
        refine ex_iload_n dX9_unwinds_50 rfl rfl ?_
        refine ex_bipush (x := 13) dX9_unwinds_51 rfl rfl ?_
        refine ex_icmp_eq (q := 62) (q2 := 56) dX9_unwinds_53 rfl rfl (fun _ => ?_) (fun hh => absurd (congrArg nI (show (hm s) = 13 by omega)) hh)
        refine ex_iconst (x := 1) dX9_unwinds_62 rfl rfl ?_
        refine ex_goto (q := 67) dX9_unwinds_63 rfl ?_
        refine ex_isub (z := nI (o - op1 s)) dX9_unwinds_67 rfl ((by rw [eo]; exact pk_sub (b := 1) (by omega))) ?_
        refine ex_put (σ' := qm_wI (qm_wI σ 40 (nI H.length)) 41 (nI (o - op1 s))) dX9_unwinds_68 rfl qp_8_139 rfl rfl (Or.inl rfl) rfl ?_
        refine ex_aload_n dX9_unwinds_71 rfl rfl ?_
        refine ex_iload_n dX9_unwinds_72 rfl rfl ?_
        refine ex_callV (a := 55) (rest := []) dX9_unwinds_73 rfl qp_8_142 rfl rfl rfl rfl rfl (Nat.le_of_ble_eq_true rfl) (hO2) (Nat.le_of_ble_eq_true rfl) ?_
        show Ex qm_lay _ mX9_unwinds 76 [some (.ref 55), some (.int (nI k)), some (.int (nI (hm s)))] [] σ2 _ _
        refine ex_goto (q := 0) dX9_unwinds_76 rfl ?_
        exact hE
      · have e13 : hm s ≠ 13 := fun z => c13 (i2.mp z)
        by_cases c19 : s = 20010
        · have e19 := i3.mpr c19
          have eo : op1 s = 1 := by rw [c19]; rfl
          refine ex_aload_n dX9_unwinds_0 rfl rfl ?_
          refine ex_getI (s := 40) (x := nI (H.length + 1)) dX9_unwinds_1 rfl qp_8_133 rfl rfl (h40) ?_
          refine ex_if_le (q := 79) (q2 := 7) dX9_unwinds_4 rfl rfl (fun hh => absurd hh (Int32.not_le.mpr (nI_lt (a := 0) (b := H.length + 1) (by omega) (by omega)))) (fun _ => ?_)
          refine ex_aload_n dX9_unwinds_7 rfl rfl ?_
          refine ex_getR (b := 70) dX9_unwinds_8 rfl qp_8_52 rfl rfl ?_
          refine ex_aload_n dX9_unwinds_11 rfl rfl ?_
          refine ex_getI (s := 40) (x := nI (H.length + 1)) dX9_unwinds_12 rfl qp_8_133 rfl rfl (h40) ?_
          refine ex_iconst (x := 1) dX9_unwinds_15 rfl rfl ?_
          refine ex_isub (z := nI H.length) dX9_unwinds_16 rfl (pk_sub (a := H.length + 1) (b := 1) (by omega)) ?_
          refine ex_iaload (k := H.length) (x := nI (hm s)) dX9_unwinds_17 rfl rfl (rfl) (by omega) (by decide) (h56) ?_
          refine ex_callS (rest := []) dX9_unwinds_18 rfl qp_8_136 rfl rfl rfl (Nat.le_of_ble_eq_true rfl) (hR) (Nat.le_of_ble_eq_true rfl) ?_
          show Ex qm_lay _ mX9_unwinds 21 [some (.ref 55), some (.int (nI k)), x] [.int (nI (rk s))] σ _ _
          refine ex_iload_n dX9_unwinds_21 rfl rfl ?_
          refine ex_icmp_lt (q := 79) (q2 := 25) dX9_unwinds_22 rfl rfl (fun hh => absurd hh (nI_nlt (a := (rk s)) (b := k) (by omega) (by omega))) (fun _ => ?_)
          refine ex_aload_n dX9_unwinds_25 rfl rfl ?_
          refine ex_dup dX9_unwinds_26 rfl rfl ?_
          refine ex_getI (s := 40) (x := nI (H.length + 1)) dX9_unwinds_27 rfl qp_8_133 rfl rfl (h40) ?_
          refine ex_iconst (x := 1) dX9_unwinds_30 rfl rfl ?_
          refine ex_isub (z := nI H.length) dX9_unwinds_31 rfl (pk_sub (a := H.length + 1) (b := 1) (by omega)) ?_
          refine ex_put (σ' := qm_wI σ 40 (nI H.length)) dX9_unwinds_32 rfl qp_8_133 rfl rfl (Or.inl rfl) rfl ?_
          refine ex_aload_n dX9_unwinds_35 rfl rfl ?_
          refine ex_getR (b := 70) dX9_unwinds_36 rfl qp_8_52 rfl rfl ?_
          refine ex_aload_n dX9_unwinds_39 rfl rfl ?_
          refine ex_getI (s := 40) (x := nI H.length) dX9_unwinds_40 rfl qp_8_133 rfl rfl (rfl) ?_
          refine ex_iaload (k := H.length) (x := nI (hm s)) dX9_unwinds_43 rfl rfl (rfl) (by omega) (by decide) (h56) ?_
          refine ex_istore_n (ls' := [some (.ref 55), some (.int (nI k)), some (.int (nI (hm s)))]) dX9_unwinds_44 rfl (Nat.le_of_ble_eq_true rfl) rfl rfl ?_
          refine ex_aload_n dX9_unwinds_45 rfl rfl ?_
          refine ex_dup dX9_unwinds_46 rfl rfl ?_
          refine ex_getI (s := 41) (x := nI o) dX9_unwinds_47 rfl qp_8_139 rfl rfl (h41) ?_
          refine ex_iload_n dX9_unwinds_50 rfl rfl ?_
          refine ex_bipush (x := 13) dX9_unwinds_51 rfl rfl ?_
          refine ex_icmp_eq (q := 62) (q2 := 56) dX9_unwinds_53 rfl rfl (fun hh => absurd hh (fun zz => absurd ((nI_eq (a := (hm s)) (b := 13) (by omega) (by omega)).mp zz) (by omega))) (fun _ => ?_)
          refine ex_iload_n dX9_unwinds_56 rfl rfl ?_
          refine ex_bipush (x := 19) dX9_unwinds_57 rfl rfl ?_
          refine ex_icmp_ne (q := 66) (q2 := 62) dX9_unwinds_59 rfl rfl (fun hh => absurd hh (fun zz => zz (congrArg nI (show (hm s) = 19 by omega)))) (fun _ => ?_)
          refine ex_iconst (x := 1) dX9_unwinds_62 rfl rfl ?_
          refine ex_goto (q := 67) dX9_unwinds_63 rfl ?_
          refine ex_isub (z := nI (o - op1 s)) dX9_unwinds_67 rfl ((by rw [eo]; exact pk_sub (b := 1) (by omega))) ?_
          refine ex_put (σ' := qm_wI (qm_wI σ 40 (nI H.length)) 41 (nI (o - op1 s))) dX9_unwinds_68 rfl qp_8_139 rfl rfl (Or.inl rfl) rfl ?_
          refine ex_aload_n dX9_unwinds_71 rfl rfl ?_
          refine ex_iload_n dX9_unwinds_72 rfl rfl ?_
          refine ex_callV (a := 55) (rest := []) dX9_unwinds_73 rfl qp_8_142 rfl rfl rfl rfl rfl (Nat.le_of_ble_eq_true rfl) (hO2) (Nat.le_of_ble_eq_true rfl) ?_
          show Ex qm_lay _ mX9_unwinds 76 [some (.ref 55), some (.int (nI k)), some (.int (nI (hm s)))] [] σ2 _ _
          refine ex_goto (q := 0) dX9_unwinds_76 rfl ?_
          exact hE
        · have e19 : hm s ≠ 19 := fun z => c19 (i3.mp z)
          have eo : op1 s = 0 := by unfold op1; rw [if_neg (by omega)]
          refine ex_aload_n dX9_unwinds_0 rfl rfl ?_
          refine ex_getI (s := 40) (x := nI (H.length + 1)) dX9_unwinds_1 rfl qp_8_133 rfl rfl (h40) ?_
          refine ex_if_le (q := 79) (q2 := 7) dX9_unwinds_4 rfl rfl (fun hh => absurd hh (Int32.not_le.mpr (nI_lt (a := 0) (b := H.length + 1) (by omega) (by omega)))) (fun _ => ?_)
          refine ex_aload_n dX9_unwinds_7 rfl rfl ?_
          refine ex_getR (b := 70) dX9_unwinds_8 rfl qp_8_52 rfl rfl ?_
          refine ex_aload_n dX9_unwinds_11 rfl rfl ?_
          refine ex_getI (s := 40) (x := nI (H.length + 1)) dX9_unwinds_12 rfl qp_8_133 rfl rfl (h40) ?_
          refine ex_iconst (x := 1) dX9_unwinds_15 rfl rfl ?_
          refine ex_isub (z := nI H.length) dX9_unwinds_16 rfl (pk_sub (a := H.length + 1) (b := 1) (by omega)) ?_
          refine ex_iaload (k := H.length) (x := nI (hm s)) dX9_unwinds_17 rfl rfl (rfl) (by omega) (by decide) (h56) ?_
          refine ex_callS (rest := []) dX9_unwinds_18 rfl qp_8_136 rfl rfl rfl (Nat.le_of_ble_eq_true rfl) (hR) (Nat.le_of_ble_eq_true rfl) ?_
          show Ex qm_lay _ mX9_unwinds 21 [some (.ref 55), some (.int (nI k)), x] [.int (nI (rk s))] σ _ _
          refine ex_iload_n dX9_unwinds_21 rfl rfl ?_
          refine ex_icmp_lt (q := 79) (q2 := 25) dX9_unwinds_22 rfl rfl (fun hh => absurd hh (nI_nlt (a := (rk s)) (b := k) (by omega) (by omega))) (fun _ => ?_)
          refine ex_aload_n dX9_unwinds_25 rfl rfl ?_
          refine ex_dup dX9_unwinds_26 rfl rfl ?_
          refine ex_getI (s := 40) (x := nI (H.length + 1)) dX9_unwinds_27 rfl qp_8_133 rfl rfl (h40) ?_
          refine ex_iconst (x := 1) dX9_unwinds_30 rfl rfl ?_
          refine ex_isub (z := nI H.length) dX9_unwinds_31 rfl (pk_sub (a := H.length + 1) (b := 1) (by omega)) ?_
          refine ex_put (σ' := qm_wI σ 40 (nI H.length)) dX9_unwinds_32 rfl qp_8_133 rfl rfl (Or.inl rfl) rfl ?_
          refine ex_aload_n dX9_unwinds_35 rfl rfl ?_
          refine ex_getR (b := 70) dX9_unwinds_36 rfl qp_8_52 rfl rfl ?_
          refine ex_aload_n dX9_unwinds_39 rfl rfl ?_
          refine ex_getI (s := 40) (x := nI H.length) dX9_unwinds_40 rfl qp_8_133 rfl rfl (rfl) ?_
          refine ex_iaload (k := H.length) (x := nI (hm s)) dX9_unwinds_43 rfl rfl (rfl) (by omega) (by decide) (h56) ?_
          refine ex_istore_n (ls' := [some (.ref 55), some (.int (nI k)), some (.int (nI (hm s)))]) dX9_unwinds_44 rfl (Nat.le_of_ble_eq_true rfl) rfl rfl ?_
          refine ex_aload_n dX9_unwinds_45 rfl rfl ?_
          refine ex_dup dX9_unwinds_46 rfl rfl ?_
          refine ex_getI (s := 41) (x := nI o) dX9_unwinds_47 rfl qp_8_139 rfl rfl (h41) ?_
          refine ex_iload_n dX9_unwinds_50 rfl rfl ?_
          refine ex_bipush (x := 13) dX9_unwinds_51 rfl rfl ?_
          refine ex_icmp_eq (q := 62) (q2 := 56) dX9_unwinds_53 rfl rfl (fun hh => absurd hh (fun zz => absurd ((nI_eq (a := (hm s)) (b := 13) (by omega) (by omega)).mp zz) (by omega))) (fun _ => ?_)
          refine ex_iload_n dX9_unwinds_56 rfl rfl ?_
          refine ex_bipush (x := 19) dX9_unwinds_57 rfl rfl ?_
          refine ex_icmp_ne (q := 66) (q2 := 62) dX9_unwinds_59 rfl rfl (fun _ => ?_) (fun hh => absurd (fun zz => absurd ((nI_eq (a := (hm s)) (b := 19) (by omega) (by omega)).mp zz) (by omega)) hh)
          refine ex_iconst (x := 0) dX9_unwinds_66 rfl rfl ?_
          refine ex_isub (z := nI (o - op1 s)) dX9_unwinds_67 rfl ((by rw [eo]; exact pk_sub (b := 0) (by omega))) ?_
          refine ex_put (σ' := qm_wI (qm_wI σ 40 (nI H.length)) 41 (nI (o - op1 s))) dX9_unwinds_68 rfl qp_8_139 rfl rfl (Or.inl rfl) rfl ?_
          refine ex_aload_n dX9_unwinds_71 rfl rfl ?_
          refine ex_iload_n dX9_unwinds_72 rfl rfl ?_
          refine ex_callV (a := 55) (rest := []) dX9_unwinds_73 rfl qp_8_142 rfl rfl rfl rfl rfl (Nat.le_of_ble_eq_true rfl) (hO2) (Nat.le_of_ble_eq_true rfl) ?_
          show Ex qm_lay _ mX9_unwinds 76 [some (.ref 55), some (.int (nI k)), some (.int (nI (hm s)))] [] σ2 _ _
          refine ex_goto (q := 0) dX9_unwinds_76 rfl ?_
          exact hE
    · rw [if_neg c]
      refine ⟨σ, ?_, h, sq.rf _ _ _⟩
      refine ex_aload_n dX9_unwinds_0 rfl rfl ?_
      refine ex_getI (s := 40) (x := nI (H.length + 1)) dX9_unwinds_1 rfl qp_8_133 rfl rfl (h40) ?_
      refine ex_if_le (q := 79) (q2 := 7) dX9_unwinds_4 rfl rfl (fun hh => absurd hh (Int32.not_le.mpr (nI_lt (a := 0) (b := H.length + 1) (by omega) (by omega)))) (fun _ => ?_)
      refine ex_aload_n dX9_unwinds_7 rfl rfl ?_
      refine ex_getR (b := 70) dX9_unwinds_8 rfl qp_8_52 rfl rfl ?_
      refine ex_aload_n dX9_unwinds_11 rfl rfl ?_
      refine ex_getI (s := 40) (x := nI (H.length + 1)) dX9_unwinds_12 rfl qp_8_133 rfl rfl (h40) ?_
      refine ex_iconst (x := 1) dX9_unwinds_15 rfl rfl ?_
      refine ex_isub (z := nI H.length) dX9_unwinds_16 rfl (pk_sub (a := H.length + 1) (b := 1) (by omega)) ?_
      refine ex_iaload (k := H.length) (x := nI (hm s)) dX9_unwinds_17 rfl rfl (rfl) (by omega) (by decide) (h56) ?_
      refine ex_callS (rest := []) dX9_unwinds_18 rfl qp_8_136 rfl rfl rfl (Nat.le_of_ble_eq_true rfl) (hR) (Nat.le_of_ble_eq_true rfl) ?_
      show Ex qm_lay _ mX9_unwinds 21 [some (.ref 55), some (.int (nI k)), x] [.int (nI (rk s))] σ _ _
      refine ex_iload_n dX9_unwinds_21 rfl rfl ?_
      refine ex_icmp_lt (q := 79) (q2 := 25) dX9_unwinds_22 rfl rfl (fun _ => ?_) (fun hh => absurd (nI_lt (a := (rk s)) (b := k) (by omega) (by omega)) hh)
      exact ex_vret dX9_unwinds_79 rfl rfl rfl

theorem unwC {t : gt_T} {n : Nat} (hn : n < 6) {σ : qm_St} {i : Nat} {H : List Nat} {o : Nat} {cs : List Nat} (h : CUR t n σ i (H, o, cs)) {k : Nat} (hk1 : 1 ≤ k) (hk7 : k ≤ 7) (hb : cs.length + H.length < 200) : ∃ σ', Ok qm_lay 1 mX9_unwinds [.ref 55, .int (nI k)] σ none σ' ∧ CUR t n σ' i (unw k H o cs) ∧ sq 40 n σ σ' := by
  obtain ⟨σ', hE, h2, g⟩ := l_unw hn hk1 hk7 H o cs σ none h hb
  exact ⟨σ', Ok.of (ls := [some (.ref 55), some (.int (nI k)), none]) (Nat.le_of_ble_eq_true rfl) rfl hE, h2, g⟩
set_option maxRecDepth 8000 in
set_option maxHeartbeats 2000000 in
theorem betC {t : gt_T} {n : Nat} (hn : n < 6) {σ : qm_St} {i : Nat} {H : List Nat} {o : Nat} {cs : List Nat} (h : CUR t n σ i (H, o, cs)) {c : Nat} (hc : isop c = true) (hb : cs.length + H.length < 199) : ∃ σ', Ok qm_lay 2 mX9_between [.ref 55, .int (nI (hm (20000 + c)))] σ (some (.int (b2i (!(decide (rk (20000 + c) = 4) && top4 (unw (ru c) H o cs).1))))) σ' ∧ ((rk (20000 + c) = 4 ∧ top4 (unw (ru c) H o cs).1 = true) ∨ CUR t n σ' i ((20000 + c) :: (unw (ru c) H o cs).1, (unw (ru c) H o cs).2.1, (unw (ru c) H o cs).2.2)) ∧ qm_rI σ' 37 = qm_rI σ 37 ∧ sq 40 n σ σ' := by
  obtain ⟨hs, h0, hc256, -, hu1, hu6, hr7⟩ := okS_op hc
  obtain ⟨i1, i2, i3, i4, i5, i6, i7, i8⟩ := okS_i hs
  obtain ⟨σ1, hO1, h1, g1⟩ := unwC hn h hu1 (by omega) (k := ru c) (by omega)
  have hl := unw_len (ru c) H o cs
  generalize hv : unw (ru c) H o cs = v at h1 hl ⊢
  obtain ⟨V, p, d⟩ := v
  have hl2 : d.length + V.length = cs.length + H.length := hl
  have hR0 := k_rank (lay := qm_lay) σ hs
  have hR1 := k_rank (lay := qm_lay) σ1 hs
  have h40 : qm_rI σ1 40 = nI V.length := h1.2.2.2.2.1
  obtain ⟨σ2, hO2, h2, g2⟩ := holdsC hn h1 (show V.length < 200 by omega) hs h0
  have e37 : qm_rI σ1 37 = qm_rI σ 37 := g1.1 _ (by omega)
  have e372 : qm_rI σ2 37 = qm_rI σ 37 := (g2.1 _ (by omega)).trans e37
  by_cases c4 : rk (20000 + c) = 4
  · have eu : ru c = 5 := by unfold ru; rw [if_pos c4]
    rw [eu] at hO1
    cases V with
    | nil =>
      refine ⟨σ2, ?_, Or.inr h2, e372, g1.tr g2⟩
      rw [show top4 ([], p, d).1 = false from rfl, Bool.and_false]
      refine Ok.of (ls := [some (.ref 55), some (.int (nI (hm (20000 + c))))]) (Nat.le_of_ble_eq_true rfl) rfl ?_
      refine ex_aload_n dX9_between_0 rfl rfl ?_
      refine ex_iload_n dX9_between_1 rfl rfl ?_
      refine ex_callS (rest := [.ref 55]) dX9_between_2 rfl qp_8_136 rfl rfl rfl (Nat.le_of_ble_eq_true rfl) (hR0) (Nat.le_of_ble_eq_true rfl) ?_
      show Ex qm_lay _ mX9_between 5 [some (.ref 55), some (.int (nI (hm (20000 + c))))] [.int (nI (rk (20000 + c))), .ref 55] σ _ _
      refine ex_iconst (x := 4) dX9_between_5 rfl rfl ?_
      refine ex_icmp_ne (q := 13) (q2 := 9) dX9_between_6 rfl rfl (fun hh => absurd hh (fun zz => zz (congrArg nI (show (rk (20000 + c)) = 4 by omega)))) (fun _ => ?_)
      refine ex_iconst (x := 5) dX9_between_9 rfl rfl ?_
      refine ex_goto (q := 17) dX9_between_10 rfl ?_
      refine ex_callV (a := 55) (rest := []) dX9_between_17 rfl qp_8_149 rfl rfl rfl rfl rfl (Nat.le_of_ble_eq_true rfl) (hO1) (Nat.le_of_ble_eq_true rfl) ?_
      show Ex qm_lay _ mX9_between 20 [some (.ref 55), some (.int (nI (hm (20000 + c))))] [] σ1 _ _
      refine ex_iload_n dX9_between_20 rfl rfl ?_
      refine ex_callS (rest := []) dX9_between_21 rfl qp_8_136 rfl rfl rfl (Nat.le_of_ble_eq_true rfl) (hR1) (Nat.le_of_ble_eq_true rfl) ?_
      show Ex qm_lay _ mX9_between 24 [some (.ref 55), some (.int (nI (hm (20000 + c))))] [.int (nI (rk (20000 + c)))] σ1 _ _
      refine ex_iconst (x := 4) dX9_between_24 rfl rfl ?_
      refine ex_icmp_ne (q := 55) (q2 := 28) dX9_between_25 rfl rfl (fun hh => absurd hh (fun zz => zz (congrArg nI (show (rk (20000 + c)) = 4 by omega)))) (fun _ => ?_)
      refine ex_aload_n dX9_between_28 rfl rfl ?_
      refine ex_getI (s := 40) (x := 0) dX9_between_29 rfl qp_8_133 rfl rfl (h40) ?_
      refine ex_if_le (q := 55) (q2 := 35) dX9_between_32 rfl rfl (fun _ => ?_) (fun hh => absurd (by decide) hh)
      refine ex_aload_n dX9_between_55 rfl rfl ?_
      refine ex_iload_n dX9_between_56 rfl rfl ?_
      refine ex_callV (a := 55) (rest := []) dX9_between_57 rfl qp_8_146 rfl rfl rfl rfl rfl (Nat.le_of_ble_eq_true rfl) (hO2) (Nat.le_of_ble_eq_true rfl) ?_
      show Ex qm_lay _ mX9_between 60 [some (.ref 55), some (.int (nI (hm (20000 + c))))] [] σ2 _ _
      refine ex_iconst (x := 1) dX9_between_60 rfl rfl ?_
      exact ex_zret dX9_between_61 rfl (by decide) rfl rfl
    | cons s V =>
      rw [List.length_cons] at hl2
      obtain ⟨hss, h56, -⟩ := h1.2.2.2.2.2.1
      have j4 := (okS_i hss).2.2.2.1
      have hRs := k_rank (lay := qm_lay) σ1 hss
      have h40 : qm_rI σ1 40 = nI (V.length + 1) := h40
      by_cases s4 : rk s = 4
      · refine ⟨σ1, ?_, Or.inl ⟨c4, decide_eq_true s4⟩, e37, g1⟩
        rw [decide_eq_true c4, show top4 (s :: V, p, d).1 = true from decide_eq_true s4]
        refine Ok.of (ls := [some (.ref 55), some (.int (nI (hm (20000 + c))))]) (Nat.le_of_ble_eq_true rfl) rfl ?_
        refine ex_aload_n dX9_between_0 rfl rfl ?_
        refine ex_iload_n dX9_between_1 rfl rfl ?_
        refine ex_callS (rest := [.ref 55]) dX9_between_2 rfl qp_8_136 rfl rfl rfl (Nat.le_of_ble_eq_true rfl) (hR0) (Nat.le_of_ble_eq_true rfl) ?_
        show Ex qm_lay _ mX9_between 5 [some (.ref 55), some (.int (nI (hm (20000 + c))))] [.int (nI (rk (20000 + c))), .ref 55] σ _ _
        refine ex_iconst (x := 4) dX9_between_5 rfl rfl ?_
        refine ex_icmp_ne (q := 13) (q2 := 9) dX9_between_6 rfl rfl (fun hh => absurd hh (fun zz => zz (congrArg nI (show (rk (20000 + c)) = 4 by omega)))) (fun _ => ?_)
        refine ex_iconst (x := 5) dX9_between_9 rfl rfl ?_
        refine ex_goto (q := 17) dX9_between_10 rfl ?_
        refine ex_callV (a := 55) (rest := []) dX9_between_17 rfl qp_8_149 rfl rfl rfl rfl rfl (Nat.le_of_ble_eq_true rfl) (hO1) (Nat.le_of_ble_eq_true rfl) ?_
        show Ex qm_lay _ mX9_between 20 [some (.ref 55), some (.int (nI (hm (20000 + c))))] [] σ1 _ _
        refine ex_iload_n dX9_between_20 rfl rfl ?_
        refine ex_callS (rest := []) dX9_between_21 rfl qp_8_136 rfl rfl rfl (Nat.le_of_ble_eq_true rfl) (hR1) (Nat.le_of_ble_eq_true rfl) ?_
        show Ex qm_lay _ mX9_between 24 [some (.ref 55), some (.int (nI (hm (20000 + c))))] [.int (nI (rk (20000 + c)))] σ1 _ _
        refine ex_iconst (x := 4) dX9_between_24 rfl rfl ?_
        refine ex_icmp_ne (q := 55) (q2 := 28) dX9_between_25 rfl rfl (fun hh => absurd hh (fun zz => zz (congrArg nI (show (rk (20000 + c)) = 4 by omega)))) (fun _ => ?_)
        refine ex_aload_n dX9_between_28 rfl rfl ?_
        refine ex_getI (s := 40) (x := nI (V.length + 1)) dX9_between_29 rfl qp_8_133 rfl rfl (h40) ?_
        refine ex_if_le (q := 55) (q2 := 35) dX9_between_32 rfl rfl (fun hh => absurd hh (Int32.not_le.mpr (nI_lt (a := 0) (b := V.length + 1) (by omega) (by omega)))) (fun _ => ?_)
        refine ex_aload_n dX9_between_35 rfl rfl ?_
        refine ex_getR (b := 70) dX9_between_36 rfl qp_8_52 rfl rfl ?_
        refine ex_aload_n dX9_between_39 rfl rfl ?_
        refine ex_getI (s := 40) (x := nI (V.length + 1)) dX9_between_40 rfl qp_8_133 rfl rfl (h40) ?_
        refine ex_iconst (x := 1) dX9_between_43 rfl rfl ?_
        refine ex_isub (z := nI V.length) dX9_between_44 rfl (pk_sub (a := V.length + 1) (b := 1) (by omega)) ?_
        refine ex_iaload (k := V.length) (x := nI (hm s)) dX9_between_45 rfl rfl (rfl) (by omega) (by decide) (h56) ?_
        refine ex_callS (rest := []) dX9_between_46 rfl qp_8_136 rfl rfl rfl (Nat.le_of_ble_eq_true rfl) (hRs) (Nat.le_of_ble_eq_true rfl) ?_
        show Ex qm_lay _ mX9_between 49 [some (.ref 55), some (.int (nI (hm (20000 + c))))] [.int (nI (rk s))] σ1 _ _
        refine ex_iconst (x := 4) dX9_between_49 rfl rfl ?_
        refine ex_icmp_ne (q := 55) (q2 := 53) dX9_between_50 rfl rfl (fun hh => absurd hh (fun zz => zz (congrArg nI (show (rk s) = 4 by omega)))) (fun _ => ?_)
        refine ex_iconst (x := 0) dX9_between_53 rfl rfl ?_
        exact ex_zret dX9_between_54 rfl (by decide) rfl rfl
      · refine ⟨σ2, ?_, Or.inr h2, e372, g1.tr g2⟩
        rw [show top4 (s :: V, p, d).1 = false from decide_eq_false s4, Bool.and_false]
        refine Ok.of (ls := [some (.ref 55), some (.int (nI (hm (20000 + c))))]) (Nat.le_of_ble_eq_true rfl) rfl ?_
        refine ex_aload_n dX9_between_0 rfl rfl ?_
        refine ex_iload_n dX9_between_1 rfl rfl ?_
        refine ex_callS (rest := [.ref 55]) dX9_between_2 rfl qp_8_136 rfl rfl rfl (Nat.le_of_ble_eq_true rfl) (hR0) (Nat.le_of_ble_eq_true rfl) ?_
        show Ex qm_lay _ mX9_between 5 [some (.ref 55), some (.int (nI (hm (20000 + c))))] [.int (nI (rk (20000 + c))), .ref 55] σ _ _
        refine ex_iconst (x := 4) dX9_between_5 rfl rfl ?_
        refine ex_icmp_ne (q := 13) (q2 := 9) dX9_between_6 rfl rfl (fun hh => absurd hh (fun zz => zz (congrArg nI (show (rk (20000 + c)) = 4 by omega)))) (fun _ => ?_)
        refine ex_iconst (x := 5) dX9_between_9 rfl rfl ?_
        refine ex_goto (q := 17) dX9_between_10 rfl ?_
        refine ex_callV (a := 55) (rest := []) dX9_between_17 rfl qp_8_149 rfl rfl rfl rfl rfl (Nat.le_of_ble_eq_true rfl) (hO1) (Nat.le_of_ble_eq_true rfl) ?_
        show Ex qm_lay _ mX9_between 20 [some (.ref 55), some (.int (nI (hm (20000 + c))))] [] σ1 _ _
        refine ex_iload_n dX9_between_20 rfl rfl ?_
        refine ex_callS (rest := []) dX9_between_21 rfl qp_8_136 rfl rfl rfl (Nat.le_of_ble_eq_true rfl) (hR1) (Nat.le_of_ble_eq_true rfl) ?_
        show Ex qm_lay _ mX9_between 24 [some (.ref 55), some (.int (nI (hm (20000 + c))))] [.int (nI (rk (20000 + c)))] σ1 _ _
        refine ex_iconst (x := 4) dX9_between_24 rfl rfl ?_
        refine ex_icmp_ne (q := 55) (q2 := 28) dX9_between_25 rfl rfl (fun hh => absurd hh (fun zz => zz (congrArg nI (show (rk (20000 + c)) = 4 by omega)))) (fun _ => ?_)
        refine ex_aload_n dX9_between_28 rfl rfl ?_
        refine ex_getI (s := 40) (x := nI (V.length + 1)) dX9_between_29 rfl qp_8_133 rfl rfl (h40) ?_
        refine ex_if_le (q := 55) (q2 := 35) dX9_between_32 rfl rfl (fun hh => absurd hh (Int32.not_le.mpr (nI_lt (a := 0) (b := V.length + 1) (by omega) (by omega)))) (fun _ => ?_)
        refine ex_aload_n dX9_between_35 rfl rfl ?_
        refine ex_getR (b := 70) dX9_between_36 rfl qp_8_52 rfl rfl ?_
        refine ex_aload_n dX9_between_39 rfl rfl ?_
        refine ex_getI (s := 40) (x := nI (V.length + 1)) dX9_between_40 rfl qp_8_133 rfl rfl (h40) ?_
        refine ex_iconst (x := 1) dX9_between_43 rfl rfl ?_
        refine ex_isub (z := nI V.length) dX9_between_44 rfl (pk_sub (a := V.length + 1) (b := 1) (by omega)) ?_
        refine ex_iaload (k := V.length) (x := nI (hm s)) dX9_between_45 rfl rfl (rfl) (by omega) (by decide) (h56) ?_
        refine ex_callS (rest := []) dX9_between_46 rfl qp_8_136 rfl rfl rfl (Nat.le_of_ble_eq_true rfl) (hRs) (Nat.le_of_ble_eq_true rfl) ?_
        show Ex qm_lay _ mX9_between 49 [some (.ref 55), some (.int (nI (hm (20000 + c))))] [.int (nI (rk s))] σ1 _ _
        refine ex_iconst (x := 4) dX9_between_49 rfl rfl ?_
        refine ex_icmp_ne (q := 55) (q2 := 53) dX9_between_50 rfl rfl (fun _ => ?_) (fun hh => absurd (fun zz => absurd ((nI_eq (a := (rk s)) (b := 4) (by omega) (by omega)).mp zz) (by omega)) hh)
        refine ex_aload_n dX9_between_55 rfl rfl ?_
        refine ex_iload_n dX9_between_56 rfl rfl ?_
        refine ex_callV (a := 55) (rest := []) dX9_between_57 rfl qp_8_146 rfl rfl rfl rfl rfl (Nat.le_of_ble_eq_true rfl) (hO2) (Nat.le_of_ble_eq_true rfl) ?_
        show Ex qm_lay _ mX9_between 60 [some (.ref 55), some (.int (nI (hm (20000 + c))))] [] σ2 _ _
        refine ex_iconst (x := 1) dX9_between_60 rfl rfl ?_
        exact ex_zret dX9_between_61 rfl (by decide) rfl rfl
  · have eu : ru c = rk (20000 + c) := by unfold ru; rw [if_neg c4]
    rw [eu] at hO1
    refine ⟨σ2, ?_, Or.inr h2, e372, g1.tr g2⟩
    rw [decide_eq_false c4, Bool.false_and]
    refine Ok.of (ls := [some (.ref 55), some (.int (nI (hm (20000 + c))))]) (Nat.le_of_ble_eq_true rfl) rfl ?_
    refine ex_aload_n dX9_between_0 rfl rfl ?_
    refine ex_iload_n dX9_between_1 rfl rfl ?_
    refine ex_callS (rest := [.ref 55]) dX9_between_2 rfl qp_8_136 rfl rfl rfl (Nat.le_of_ble_eq_true rfl) (hR0) (Nat.le_of_ble_eq_true rfl) ?_
    show Ex qm_lay _ mX9_between 5 [some (.ref 55), some (.int (nI (hm (20000 + c))))] [.int (nI (rk (20000 + c))), .ref 55] σ _ _
    refine ex_iconst (x := 4) dX9_between_5 rfl rfl ?_
    refine ex_icmp_ne (q := 13) (q2 := 9) dX9_between_6 rfl rfl (fun _ => ?_) (fun hh => absurd (fun zz => absurd ((nI_eq (a := (rk (20000 + c))) (b := 4) (by omega) (by omega)).mp zz) (by omega)) hh)
    refine ex_iload_n dX9_between_13 rfl rfl ?_
    refine ex_callS (rest := [.ref 55]) dX9_between_14 rfl qp_8_136 rfl rfl rfl (Nat.le_of_ble_eq_true rfl) (hR0) (Nat.le_of_ble_eq_true rfl) ?_
    show Ex qm_lay _ mX9_between 17 [some (.ref 55), some (.int (nI (hm (20000 + c))))] [.int (nI (rk (20000 + c))), .ref 55] σ _ _
    refine ex_callV (a := 55) (rest := []) dX9_between_17 rfl qp_8_149 rfl rfl rfl rfl rfl (Nat.le_of_ble_eq_true rfl) (hO1) (Nat.le_of_ble_eq_true rfl) ?_
    show Ex qm_lay _ mX9_between 20 [some (.ref 55), some (.int (nI (hm (20000 + c))))] [] σ1 _ _
    refine ex_iload_n dX9_between_20 rfl rfl ?_
    refine ex_callS (rest := []) dX9_between_21 rfl qp_8_136 rfl rfl rfl (Nat.le_of_ble_eq_true rfl) (hR1) (Nat.le_of_ble_eq_true rfl) ?_
    show Ex qm_lay _ mX9_between 24 [some (.ref 55), some (.int (nI (hm (20000 + c))))] [.int (nI (rk (20000 + c)))] σ1 _ _
    refine ex_iconst (x := 4) dX9_between_24 rfl rfl ?_
    refine ex_icmp_ne (q := 55) (q2 := 28) dX9_between_25 rfl rfl (fun _ => ?_) (fun hh => absurd (fun zz => absurd ((nI_eq (a := (rk (20000 + c))) (b := 4) (by omega) (by omega)).mp zz) (by omega)) hh)
    refine ex_aload_n dX9_between_55 rfl rfl ?_
    refine ex_iload_n dX9_between_56 rfl rfl ?_
    refine ex_callV (a := 55) (rest := []) dX9_between_57 rfl qp_8_146 rfl rfl rfl rfl rfl (Nat.le_of_ble_eq_true rfl) (hO2) (Nat.le_of_ble_eq_true rfl) ?_
    show Ex qm_lay _ mX9_between 60 [some (.ref 55), some (.int (nI (hm (20000 + c))))] [] σ2 _ _
    refine ex_iconst (x := 1) dX9_between_60 rfl rfl ?_
    exact ex_zret dX9_between_61 rfl (by decide) rfl rfl

set_option maxRecDepth 8000 in
set_option maxHeartbeats 2000000 in
theorem k_signOf {σ : qm_St} {c : Nat} (hc : c < 256) (h38 : qm_rI σ 38 = rtk c) : Ok qm_lay 0 mX9_signOf [.ref 55] σ (some (.int (if isop c = true then nI (hm (20000 + c)) else -1))) σ := by
  by_cases h : isop c = true
  · rw [if_pos h]
    have hc : c = 7 ∨ c = 8 ∨ c = 60 ∨ c = 61 ∨ c = 43 ∨ c = 45 ∨ c = 42 := by
      unfold isop oM oP oA oO oC at h
      simp only [Bool.or_eq_true, decide_eq_true_eq] at h
      omega
    refine Ok.of (ls := [some (.ref 55)]) (Nat.le_of_ble_eq_true rfl) rfl ?_
    rcases hc with e | e | e | e | e | e | e
    · subst e
      have h38 : qm_rI σ 38 = 4 := h38
      refine ex_aload_n dX9_signOf_0 rfl rfl ?_
      refine ex_getI (s := 38) (x := 4) dX9_signOf_1 rfl qp_8_120 rfl rfl (h38) ?_
      refine ex_iconst (x := 4) dX9_signOf_4 rfl rfl ?_
      refine ex_icmp_ne (q := 13) (q2 := 8) dX9_signOf_5 rfl rfl (fun hh => absurd hh (by decide)) (fun _ => ?_)
      refine ex_bipush (x := 11) dX9_signOf_8 rfl rfl ?_
      refine ex_goto (q := 97) dX9_signOf_10 rfl ?_
      exact ex_iret dX9_signOf_97 rfl rfl rfl
    · subst e
      have h38 : qm_rI σ 38 = 5 := h38
      refine ex_aload_n dX9_signOf_0 rfl rfl ?_
      refine ex_getI (s := 38) (x := 5) dX9_signOf_1 rfl qp_8_120 rfl rfl (h38) ?_
      refine ex_iconst (x := 4) dX9_signOf_4 rfl rfl ?_
      refine ex_icmp_ne (q := 13) (q2 := 8) dX9_signOf_5 rfl rfl (fun _ => ?_) (fun hh => absurd (by decide) hh)
      refine ex_aload_n dX9_signOf_13 rfl rfl ?_
      refine ex_getI (s := 38) (x := 5) dX9_signOf_14 rfl qp_8_120 rfl rfl (h38) ?_
      refine ex_iconst (x := 5) dX9_signOf_17 rfl rfl ?_
      refine ex_icmp_ne (q := 26) (q2 := 21) dX9_signOf_18 rfl rfl (fun hh => absurd hh (by decide)) (fun _ => ?_)
      refine ex_bipush (x := 12) dX9_signOf_21 rfl rfl ?_
      refine ex_goto (q := 97) dX9_signOf_23 rfl ?_
      exact ex_iret dX9_signOf_97 rfl rfl rfl
    · subst e
      have h38 : qm_rI σ 38 = 60 := h38
      refine ex_aload_n dX9_signOf_0 rfl rfl ?_
      refine ex_getI (s := 38) (x := 60) dX9_signOf_1 rfl qp_8_120 rfl rfl (h38) ?_
      refine ex_iconst (x := 4) dX9_signOf_4 rfl rfl ?_
      refine ex_icmp_ne (q := 13) (q2 := 8) dX9_signOf_5 rfl rfl (fun _ => ?_) (fun hh => absurd (by decide) hh)
      refine ex_aload_n dX9_signOf_13 rfl rfl ?_
      refine ex_getI (s := 38) (x := 60) dX9_signOf_14 rfl qp_8_120 rfl rfl (h38) ?_
      refine ex_iconst (x := 5) dX9_signOf_17 rfl rfl ?_
      refine ex_icmp_ne (q := 26) (q2 := 21) dX9_signOf_18 rfl rfl (fun _ => ?_) (fun hh => absurd (by decide) hh)
      refine ex_aload_n dX9_signOf_26 rfl rfl ?_
      refine ex_getI (s := 38) (x := 60) dX9_signOf_27 rfl qp_8_120 rfl rfl (h38) ?_
      refine ex_bipush (x := 60) dX9_signOf_30 rfl rfl ?_
      refine ex_icmp_ne (q := 40) (q2 := 35) dX9_signOf_32 rfl rfl (fun hh => absurd hh (by decide)) (fun _ => ?_)
      refine ex_bipush (x := 14) dX9_signOf_35 rfl rfl ?_
      refine ex_goto (q := 97) dX9_signOf_37 rfl ?_
      exact ex_iret dX9_signOf_97 rfl rfl rfl
    · subst e
      have h38 : qm_rI σ 38 = 61 := h38
      refine ex_aload_n dX9_signOf_0 rfl rfl ?_
      refine ex_getI (s := 38) (x := 61) dX9_signOf_1 rfl qp_8_120 rfl rfl (h38) ?_
      refine ex_iconst (x := 4) dX9_signOf_4 rfl rfl ?_
      refine ex_icmp_ne (q := 13) (q2 := 8) dX9_signOf_5 rfl rfl (fun _ => ?_) (fun hh => absurd (by decide) hh)
      refine ex_aload_n dX9_signOf_13 rfl rfl ?_
      refine ex_getI (s := 38) (x := 61) dX9_signOf_14 rfl qp_8_120 rfl rfl (h38) ?_
      refine ex_iconst (x := 5) dX9_signOf_17 rfl rfl ?_
      refine ex_icmp_ne (q := 26) (q2 := 21) dX9_signOf_18 rfl rfl (fun _ => ?_) (fun hh => absurd (by decide) hh)
      refine ex_aload_n dX9_signOf_26 rfl rfl ?_
      refine ex_getI (s := 38) (x := 61) dX9_signOf_27 rfl qp_8_120 rfl rfl (h38) ?_
      refine ex_bipush (x := 60) dX9_signOf_30 rfl rfl ?_
      refine ex_icmp_ne (q := 40) (q2 := 35) dX9_signOf_32 rfl rfl (fun _ => ?_) (fun hh => absurd (by decide) hh)
      refine ex_aload_n dX9_signOf_40 rfl rfl ?_
      refine ex_getI (s := 38) (x := 61) dX9_signOf_41 rfl qp_8_120 rfl rfl (h38) ?_
      refine ex_bipush (x := 61) dX9_signOf_44 rfl rfl ?_
      refine ex_icmp_ne (q := 54) (q2 := 49) dX9_signOf_46 rfl rfl (fun hh => absurd hh (by decide)) (fun _ => ?_)
      refine ex_bipush (x := 15) dX9_signOf_49 rfl rfl ?_
      refine ex_goto (q := 97) dX9_signOf_51 rfl ?_
      exact ex_iret dX9_signOf_97 rfl rfl rfl
    · subst e
      have h38 : qm_rI σ 38 = 43 := h38
      refine ex_aload_n dX9_signOf_0 rfl rfl ?_
      refine ex_getI (s := 38) (x := 43) dX9_signOf_1 rfl qp_8_120 rfl rfl (h38) ?_
      refine ex_iconst (x := 4) dX9_signOf_4 rfl rfl ?_
      refine ex_icmp_ne (q := 13) (q2 := 8) dX9_signOf_5 rfl rfl (fun _ => ?_) (fun hh => absurd (by decide) hh)
      refine ex_aload_n dX9_signOf_13 rfl rfl ?_
      refine ex_getI (s := 38) (x := 43) dX9_signOf_14 rfl qp_8_120 rfl rfl (h38) ?_
      refine ex_iconst (x := 5) dX9_signOf_17 rfl rfl ?_
      refine ex_icmp_ne (q := 26) (q2 := 21) dX9_signOf_18 rfl rfl (fun _ => ?_) (fun hh => absurd (by decide) hh)
      refine ex_aload_n dX9_signOf_26 rfl rfl ?_
      refine ex_getI (s := 38) (x := 43) dX9_signOf_27 rfl qp_8_120 rfl rfl (h38) ?_
      refine ex_bipush (x := 60) dX9_signOf_30 rfl rfl ?_
      refine ex_icmp_ne (q := 40) (q2 := 35) dX9_signOf_32 rfl rfl (fun _ => ?_) (fun hh => absurd (by decide) hh)
      refine ex_aload_n dX9_signOf_40 rfl rfl ?_
      refine ex_getI (s := 38) (x := 43) dX9_signOf_41 rfl qp_8_120 rfl rfl (h38) ?_
      refine ex_bipush (x := 61) dX9_signOf_44 rfl rfl ?_
      refine ex_icmp_ne (q := 54) (q2 := 49) dX9_signOf_46 rfl rfl (fun _ => ?_) (fun hh => absurd (by decide) hh)
      refine ex_aload_n dX9_signOf_54 rfl rfl ?_
      refine ex_getI (s := 38) (x := 43) dX9_signOf_55 rfl qp_8_120 rfl rfl (h38) ?_
      refine ex_bipush (x := 43) dX9_signOf_58 rfl rfl ?_
      refine ex_icmp_ne (q := 68) (q2 := 63) dX9_signOf_60 rfl rfl (fun hh => absurd hh (by decide)) (fun _ => ?_)
      refine ex_bipush (x := 16) dX9_signOf_63 rfl rfl ?_
      refine ex_goto (q := 97) dX9_signOf_65 rfl ?_
      exact ex_iret dX9_signOf_97 rfl rfl rfl
    · subst e
      have h38 : qm_rI σ 38 = 45 := h38
      refine ex_aload_n dX9_signOf_0 rfl rfl ?_
      refine ex_getI (s := 38) (x := 45) dX9_signOf_1 rfl qp_8_120 rfl rfl (h38) ?_
      refine ex_iconst (x := 4) dX9_signOf_4 rfl rfl ?_
      refine ex_icmp_ne (q := 13) (q2 := 8) dX9_signOf_5 rfl rfl (fun _ => ?_) (fun hh => absurd (by decide) hh)
      refine ex_aload_n dX9_signOf_13 rfl rfl ?_
      refine ex_getI (s := 38) (x := 45) dX9_signOf_14 rfl qp_8_120 rfl rfl (h38) ?_
      refine ex_iconst (x := 5) dX9_signOf_17 rfl rfl ?_
      refine ex_icmp_ne (q := 26) (q2 := 21) dX9_signOf_18 rfl rfl (fun _ => ?_) (fun hh => absurd (by decide) hh)
      refine ex_aload_n dX9_signOf_26 rfl rfl ?_
      refine ex_getI (s := 38) (x := 45) dX9_signOf_27 rfl qp_8_120 rfl rfl (h38) ?_
      refine ex_bipush (x := 60) dX9_signOf_30 rfl rfl ?_
      refine ex_icmp_ne (q := 40) (q2 := 35) dX9_signOf_32 rfl rfl (fun _ => ?_) (fun hh => absurd (by decide) hh)
      refine ex_aload_n dX9_signOf_40 rfl rfl ?_
      refine ex_getI (s := 38) (x := 45) dX9_signOf_41 rfl qp_8_120 rfl rfl (h38) ?_
      refine ex_bipush (x := 61) dX9_signOf_44 rfl rfl ?_
      refine ex_icmp_ne (q := 54) (q2 := 49) dX9_signOf_46 rfl rfl (fun _ => ?_) (fun hh => absurd (by decide) hh)
      refine ex_aload_n dX9_signOf_54 rfl rfl ?_
      refine ex_getI (s := 38) (x := 45) dX9_signOf_55 rfl qp_8_120 rfl rfl (h38) ?_
      refine ex_bipush (x := 43) dX9_signOf_58 rfl rfl ?_
      refine ex_icmp_ne (q := 68) (q2 := 63) dX9_signOf_60 rfl rfl (fun _ => ?_) (fun hh => absurd (by decide) hh)
      refine ex_aload_n dX9_signOf_68 rfl rfl ?_
      refine ex_getI (s := 38) (x := 45) dX9_signOf_69 rfl qp_8_120 rfl rfl (h38) ?_
      refine ex_bipush (x := 45) dX9_signOf_72 rfl rfl ?_
      refine ex_icmp_ne (q := 82) (q2 := 77) dX9_signOf_74 rfl rfl (fun hh => absurd hh (by decide)) (fun _ => ?_)
      refine ex_bipush (x := 17) dX9_signOf_77 rfl rfl ?_
      refine ex_goto (q := 97) dX9_signOf_79 rfl ?_
      exact ex_iret dX9_signOf_97 rfl rfl rfl
    · subst e
      have h38 : qm_rI σ 38 = 42 := h38
      refine ex_aload_n dX9_signOf_0 rfl rfl ?_
      refine ex_getI (s := 38) (x := 42) dX9_signOf_1 rfl qp_8_120 rfl rfl (h38) ?_
      refine ex_iconst (x := 4) dX9_signOf_4 rfl rfl ?_
      refine ex_icmp_ne (q := 13) (q2 := 8) dX9_signOf_5 rfl rfl (fun _ => ?_) (fun hh => absurd (by decide) hh)
      refine ex_aload_n dX9_signOf_13 rfl rfl ?_
      refine ex_getI (s := 38) (x := 42) dX9_signOf_14 rfl qp_8_120 rfl rfl (h38) ?_
      refine ex_iconst (x := 5) dX9_signOf_17 rfl rfl ?_
      refine ex_icmp_ne (q := 26) (q2 := 21) dX9_signOf_18 rfl rfl (fun _ => ?_) (fun hh => absurd (by decide) hh)
      refine ex_aload_n dX9_signOf_26 rfl rfl ?_
      refine ex_getI (s := 38) (x := 42) dX9_signOf_27 rfl qp_8_120 rfl rfl (h38) ?_
      refine ex_bipush (x := 60) dX9_signOf_30 rfl rfl ?_
      refine ex_icmp_ne (q := 40) (q2 := 35) dX9_signOf_32 rfl rfl (fun _ => ?_) (fun hh => absurd (by decide) hh)
      refine ex_aload_n dX9_signOf_40 rfl rfl ?_
      refine ex_getI (s := 38) (x := 42) dX9_signOf_41 rfl qp_8_120 rfl rfl (h38) ?_
      refine ex_bipush (x := 61) dX9_signOf_44 rfl rfl ?_
      refine ex_icmp_ne (q := 54) (q2 := 49) dX9_signOf_46 rfl rfl (fun _ => ?_) (fun hh => absurd (by decide) hh)
      refine ex_aload_n dX9_signOf_54 rfl rfl ?_
      refine ex_getI (s := 38) (x := 42) dX9_signOf_55 rfl qp_8_120 rfl rfl (h38) ?_
      refine ex_bipush (x := 43) dX9_signOf_58 rfl rfl ?_
      refine ex_icmp_ne (q := 68) (q2 := 63) dX9_signOf_60 rfl rfl (fun _ => ?_) (fun hh => absurd (by decide) hh)
      refine ex_aload_n dX9_signOf_68 rfl rfl ?_
      refine ex_getI (s := 38) (x := 42) dX9_signOf_69 rfl qp_8_120 rfl rfl (h38) ?_
      refine ex_bipush (x := 45) dX9_signOf_72 rfl rfl ?_
      refine ex_icmp_ne (q := 82) (q2 := 77) dX9_signOf_74 rfl rfl (fun _ => ?_) (fun hh => absurd (by decide) hh)
      refine ex_aload_n dX9_signOf_82 rfl rfl ?_
      refine ex_getI (s := 38) (x := 42) dX9_signOf_83 rfl qp_8_120 rfl rfl (h38) ?_
      refine ex_bipush (x := 42) dX9_signOf_86 rfl rfl ?_
      refine ex_icmp_ne (q := 96) (q2 := 91) dX9_signOf_88 rfl rfl (fun hh => absurd hh (by decide)) (fun _ => ?_)
      refine ex_bipush (x := 18) dX9_signOf_91 rfl rfl ?_
      refine ex_goto (q := 97) dX9_signOf_93 rfl ?_
      exact ex_iret dX9_signOf_97 rfl rfl rfl
  · rw [if_neg h]
    obtain ⟨k4, k5, k60, k61, k43, k45, k42⟩ := rtk_o c hc (by simpa using h)
    refine Ok.of (ls := [some (.ref 55)]) (Nat.le_of_ble_eq_true rfl) rfl ?_
    refine ex_aload_n dX9_signOf_0 rfl rfl ?_
    refine ex_getI (s := 38) (x := rtk c) dX9_signOf_1 rfl qp_8_120 rfl rfl (h38) ?_
    refine ex_iconst (x := 4) dX9_signOf_4 rfl rfl ?_
    refine ex_icmp_ne (q := 13) (q2 := 8) dX9_signOf_5 rfl rfl (fun _ => ?_) (fun hh => absurd (k4) hh)
    refine ex_aload_n dX9_signOf_13 rfl rfl ?_
    refine ex_getI (s := 38) (x := rtk c) dX9_signOf_14 rfl qp_8_120 rfl rfl (h38) ?_
    refine ex_iconst (x := 5) dX9_signOf_17 rfl rfl ?_
    refine ex_icmp_ne (q := 26) (q2 := 21) dX9_signOf_18 rfl rfl (fun _ => ?_) (fun hh => absurd (k5) hh)
    refine ex_aload_n dX9_signOf_26 rfl rfl ?_
    refine ex_getI (s := 38) (x := rtk c) dX9_signOf_27 rfl qp_8_120 rfl rfl (h38) ?_
    refine ex_bipush (x := 60) dX9_signOf_30 rfl rfl ?_
    refine ex_icmp_ne (q := 40) (q2 := 35) dX9_signOf_32 rfl rfl (fun _ => ?_) (fun hh => absurd (k60) hh)
    refine ex_aload_n dX9_signOf_40 rfl rfl ?_
    refine ex_getI (s := 38) (x := rtk c) dX9_signOf_41 rfl qp_8_120 rfl rfl (h38) ?_
    refine ex_bipush (x := 61) dX9_signOf_44 rfl rfl ?_
    refine ex_icmp_ne (q := 54) (q2 := 49) dX9_signOf_46 rfl rfl (fun _ => ?_) (fun hh => absurd (k61) hh)
    refine ex_aload_n dX9_signOf_54 rfl rfl ?_
    refine ex_getI (s := 38) (x := rtk c) dX9_signOf_55 rfl qp_8_120 rfl rfl (h38) ?_
    refine ex_bipush (x := 43) dX9_signOf_58 rfl rfl ?_
    refine ex_icmp_ne (q := 68) (q2 := 63) dX9_signOf_60 rfl rfl (fun _ => ?_) (fun hh => absurd (k43) hh)
    refine ex_aload_n dX9_signOf_68 rfl rfl ?_
    refine ex_getI (s := 38) (x := rtk c) dX9_signOf_69 rfl qp_8_120 rfl rfl (h38) ?_
    refine ex_bipush (x := 45) dX9_signOf_72 rfl rfl ?_
    refine ex_icmp_ne (q := 82) (q2 := 77) dX9_signOf_74 rfl rfl (fun _ => ?_) (fun hh => absurd (k45) hh)
    refine ex_aload_n dX9_signOf_82 rfl rfl ?_
    refine ex_getI (s := 38) (x := rtk c) dX9_signOf_83 rfl qp_8_120 rfl rfl (h38) ?_
    refine ex_bipush (x := 42) dX9_signOf_86 rfl rfl ?_
    refine ex_icmp_ne (q := 96) (q2 := 91) dX9_signOf_88 rfl rfl (fun _ => ?_) (fun hh => absurd (k42) hh)
    refine ex_iconst (x := (-1)) dX9_signOf_96 rfl rfl ?_
    exact ex_iret dX9_signOf_97 rfl rfl rfl

