/-! ===== lanes ===== -/
/-- as sm, but the rows from a to b may change, too -/
def sl (σ σ' : qm_St) (i1 i2 j1 j2 a b : Nat) : Prop := (∀ s, (s < i1 ∨ i2 ≤ s) → qm_rI σ' s = qm_rI σ s) ∧ ∀ r, (r < j1 ∨ j2 ≤ r) → (r < a ∨ b ≤ r) → ∀ k, qm_rF σ' r k = qm_rF σ r k
theorem sl.rf (σ : qm_St) (i1 i2 j1 j2 a b : Nat) : sl σ σ i1 i2 j1 j2 a b := ⟨fun _ _ => rfl, fun _ _ _ _ => rfl⟩
theorem sl.tr {x y z : qm_St} {i1 i2 j1 j2 a b : Nat} (h : sl x y i1 i2 j1 j2 a b) (g : sl y z i1 i2 j1 j2 a b) : sl x z i1 i2 j1 j2 a b := ⟨fun s hs => (g.1 s hs).trans (h.1 s hs), fun r hr hr2 k => (g.2 r hr hr2 k).trans (h.2 r hr hr2 k)⟩
theorem sm.l1 {x y : qm_St} {i1 i2 j1 j2 : Nat} (h : sm x y i1 i2 j1 j2) (a b : Nat) : sl x y i1 i2 j1 j2 a b := ⟨h.1, fun r hr _ k => h.2 r hr k⟩
theorem sm.l2 {x y : qm_St} {c a b : Nat} (h : sm x y c c a b) (i1 i2 j1 j2 : Nat) : sl x y i1 i2 j1 j2 a b := ⟨fun s _ => h.1 s (by omega), fun r _ hr k => h.2 r hr k⟩
theorem sl.split {x z : qm_St} {i1 i2 j1 j2 a b : Nat} (h : sl x z i1 i2 j1 j2 a b) (c : Nat) : ∃ y, sm x y c c a b ∧ sm y z i1 i2 j1 j2 := by
  refine ⟨(x.1, fun r => if a ≤ r ∧ r < b then z.2 r else x.2 r), ⟨fun s _ => rfl, fun r hr k => ?_⟩, ⟨fun s hs => h.1 s hs, fun r hr k => ?_⟩⟩
  · show (if a ≤ r ∧ r < b then z.2 r else x.2 r) k = x.2 r k
    rw [if_neg (by omega)]
  · show z.2 r k = (if a ≤ r ∧ r < b then z.2 r else x.2 r) k
    by_cases e : a ≤ r ∧ r < b
    · rw [if_pos e]
    · rw [if_neg e]; exact h.2 r hr (by omega) k
theorem sl.wid {x y : qm_St} {i1 i2 j1 j2 a b i3 i4 j3 j4 : Nat} (h : sl x y i1 i2 j1 j2 a b) (hi : i3 ≤ i1 ∧ i2 ≤ i4) (hj : j3 ≤ j1 ∧ j2 ≤ j4) : sl x y i3 i4 j3 j4 a b := ⟨fun s hs => h.1 s (by omega), fun r hr hr2 k => h.2 r (by omega) hr2 k⟩
theorem sl.sm {x z : qm_St} {i1 i2 j1 j2 a b i3 i4 j3 j4 : Nat} (h : sl x z i1 i2 j1 j2 a b) (hi : i3 ≤ i1 ∧ i2 ≤ i4) (hj : j3 ≤ j1 ∧ j2 ≤ j4) (ha : j3 ≤ a ∧ b ≤ j4) : sm x z i3 i4 j3 j4 := ⟨fun s hs => h.1 s (by omega), fun r hr k => h.2 r (by omega) (by omega) k⟩
/-- a lot or none, as a number -/
def oi (m : Option Nat) : Int32 := m.elim (-1) nI
/-- which of two houses moves -/
def lm_of (T : tn_T) (X : gx_T) (a b : Nat) : Option Nat :=
  if (tn_u T).testBit a = true ∧ (tn_u T).testBit b = true ∧ tn_c T a = tn_c T b then
    (if sx_says T X 2 (if tn_s T b < tn_s T a then a else b) (nI (tn_c T (if tn_s T b < tn_s T a then a else b))) 0 = 0 then none else some (if tn_s T b < tn_s T a then a else b)) else none
def lm_go (T : tn_T) (X : gx_T) (l : Nat) : Nat → Nat → Option Nat
  | 0, _ => none
  | r + 1, k => if (tn_b T l).testBit k = true then (match lm_of T X l k with | some m => some m | none => lm_go T X l r (k + 1)) else lm_go T X l r (k + 1)
def lm_nx (T : tn_T) (X : gx_T) (l : Nat) : Option Nat := lm_go T X l (tn_L T) 0
def lm_run (X : gx_T) : Nat → tn_T → Option Nat → Nat × tn_T
  | 0, T, _ => (0, T)
  | _ + 1, T, none => (0, T)
  | f + 1, T, some m => ((lm_run X f (tn_rc T m (tn_wd T m)) (lm_nx (tn_rc T m (tn_wd T m)) X m)).1 + 1, (lm_run X f (tn_rc T m (tn_wd T m)) (lm_nx (tn_rc T m (tn_wd T m)) X m)).2)
/-- how often any moved; what has become of the town -/
def lm_open (T : tn_T) (X : gx_T) (a b : Nat) : Nat × tn_T := lm_run X 20 (tn_jn T a b) (lm_of (tn_jn T a b) X a b)
theorem sx_says2 (T : tn_T) (X : gx_T) (l : Nat) (c o : Int32) : sx_says T X 2 l c o = 0 ∨ sx_says T X 2 l c o = 1 := by
  rw [sx_says, if_pos rfl]
  by_cases h : sx_v T X 2 l c o = 0
  · rw [if_pos h]; exact Or.inl rfl
  · rw [if_neg h]; exact Or.inr rfl
theorem lm_of_m {T : tn_T} {X : gx_T} {a b m : Nat} (h : lm_of T X a b = some m) : (m = a ∨ m = b) ∧ (tn_u T).testBit m = true := by
  unfold lm_of at h
  by_cases c : (tn_u T).testBit a = true ∧ (tn_u T).testBit b = true ∧ tn_c T a = tn_c T b
  · rw [if_pos c] at h
    by_cases d : tn_s T b < tn_s T a
    · simp only [if_pos d] at h
      split at h
      · cases h
      · have := Option.some.inj h; subst this; exact ⟨Or.inl rfl, c.1⟩
    · simp only [if_neg d] at h
      split at h
      · cases h
      · have := Option.some.inj h; subst this; exact ⟨Or.inr rfl, c.2.1⟩
  · rw [if_neg c] at h; cases h
theorem lm_go_m {T : tn_T} {X : gx_T} {l m : Nat} (hl : l < tn_L T) : ∀ r k, k + r = tn_L T → lm_go T X l r k = some m → m < tn_L T ∧ (tn_u T).testBit m = true
  | 0, k, _, h => by cases h
  | r + 1, k, hk, h => by
    rw [lm_go] at h
    by_cases c : (tn_b T l).testBit k = true
    · rw [if_pos c] at h
      cases e : lm_of T X l k with
      | some y =>
        rw [e] at h
        have := Option.some.inj h; subst this
        obtain ⟨h1, h2⟩ := lm_of_m e
        exact ⟨by rcases h1 with h1 | h1 <;> omega, h2⟩
      | none => rw [e] at h; exact lm_go_m hl r (k + 1) (by omega) h
    · rw [if_neg c] at h; exact lm_go_m hl r (k + 1) (by omega) h
theorem lm_run_L (X : gx_T) : ∀ (f : Nat) (T : tn_T) (m : Option Nat), tn_L (lm_run X f T m).2 = tn_L T ∧ tn_w (lm_run X f T m).2 = tn_w T ∧ (lm_run X f T m).1 ≤ f ∧ tn_k (lm_run X f T m).2 = tn_k T ∧ tn_m (lm_run X f T m).2 = tn_m T
  | 0, T, m => by cases m <;> exact ⟨rfl, rfl, Nat.le_refl _, rfl, rfl⟩
  | f + 1, T, none => ⟨rfl, rfl, Nat.zero_le _, rfl, rfl⟩
  | f + 1, T, some m => by
    obtain ⟨h1, h2, h3, h4, h5⟩ := lm_run_L X f (tn_rc T m (tn_wd T m)) (lm_nx (tn_rc T m (tn_wd T m)) X m)
    exact ⟨h1, h2, Nat.succ_le_succ h3, h4, h5⟩
theorem lm_run_ok (X : gx_T) : ∀ (f : Nat) (T : tn_T) (m : Option Nat), tn_ok T → tn_ok (lm_run X f T m).2
  | 0, T, m, h => by cases m <;> exact h
  | f + 1, T, none, h => h
  | f + 1, T, some m, h => lm_run_ok X f _ _ (tn_rc_ok h (tn_wd_le h m))

set_option maxHeartbeats 2000000 in
theorem c_moverOf_0 {σ : qm_St} {T : tn_T} {X : gx_T} (hX : gx_ok X) (hT : tn_ok T) (hw : tn_w T < gx_n X) (h : TR σ 9 18 T) (hXC : XC σ X) {a b : Nat} (ha : a < tn_L T) (hb : b < tn_L T) : ∃ σ', Ok qm_lay 12 mX1_moverOf [.ref 22, .ref 4, .int (nI a), .int (nI b)] σ (some (.int (oi (lm_of T X a b)))) σ' ∧ sm σ σ' 8 8 4 6 := by
  have hL := hT.1
  by_cases c1 : (tn_u T).testBit a = true ∧ (tn_u T).testBit b = true ∧ tn_c T a = tn_c T b
  · obtain ⟨c1, c2, c3⟩ := c1
    have ga := (hT.2.2.2 a ha).2.2.2.2.1 c1
    have gb := (hT.2.2.2 b hb).2.2.2.2.1 c2
    have key : ∀ y, y = (if tn_s T b < tn_s T a then a else b) → (y = a ∨ y = b) → y < tn_L T ∧ (tn_u T).testBit y = true ∧ lm_of T X a b = (if sx_says T X 2 y (nI (tn_c T y)) 0 = 0 then none else some y) := fun y hy hy2 => by
      refine ⟨by rcases hy2 with e | e <;> omega, by rcases hy2 with e | e <;> rw [e] <;> assumption, ?_⟩
      rw [lm_of, if_pos ⟨c1, c2, c3⟩, hy]
    by_cases c4 : tn_s T b < tn_s T a
    · obtain ⟨hy, hyb, hl⟩ := key a (by rw [if_pos c4]) (by first | exact Or.inl rfl | exact Or.inr rfl)
      rw [hl]
      obtain ⟨σ', hO, hs⟩ := c_says_0 hT hX hw h hXC (part := 2) (by decide) hy (nI (tn_c T a)) 0
      refine ⟨σ', ?_, hs⟩
      by_cases c5 : sx_says T X 2 a (nI (tn_c T a)) 0 = 0
      · refine Ok.of (ls := [some (.ref 22), some (.ref 4), some (.int (nI a)), some (.int (nI b)), none]) (Nat.le_of_ble_eq_true rfl) rfl ?_
        refine ex_aload_n dX1_moverOf_0 rfl rfl ?_
        refine ex_iload_n dX1_moverOf_1 rfl rfl ?_
        refine ex_callV (a := 22) (rest := []) dX1_moverOf_2 rfl qp_9_41 rfl rfl rfl rfl rfl (Nat.le_of_ble_eq_true rfl) (c_isBuilt_0n hT h (by omega)) (Nat.le_of_ble_eq_true rfl) ?_
        show Ex qm_lay _ mX1_moverOf 5 [some (.ref 22), some (.ref 4), some (.int (nI a)), some (.int (nI b)), none] [.int (b2i (Nat.testBit (tn_u T) a))] σ _ _
        refine ex_if_eq (q := 31) (q2 := 8) dX1_moverOf_5 rfl rfl (fun hh => absurd hh (b2i_n0.mpr (c1))) (fun _ => ?_)
        refine ex_aload_n dX1_moverOf_8 rfl rfl ?_
        refine ex_iload_n dX1_moverOf_9 rfl rfl ?_
        refine ex_callV (a := 22) (rest := []) dX1_moverOf_10 rfl qp_9_41 rfl rfl rfl rfl rfl (Nat.le_of_ble_eq_true rfl) (c_isBuilt_0n hT h (by omega)) (Nat.le_of_ble_eq_true rfl) ?_
        show Ex qm_lay _ mX1_moverOf 13 [some (.ref 22), some (.ref 4), some (.int (nI a)), some (.int (nI b)), none] [.int (b2i (Nat.testBit (tn_u T) b))] σ _ _
        refine ex_if_eq (q := 31) (q2 := 16) dX1_moverOf_13 rfl rfl (fun hh => absurd hh (b2i_n0.mpr (c2))) (fun _ => ?_)
        refine ex_aload_n dX1_moverOf_16 rfl rfl ?_
        refine ex_getR (b := 26) dX1_moverOf_17 rfl qp_9_21 rfl rfl ?_
        refine ex_iload_n dX1_moverOf_20 rfl rfl ?_
        refine ex_iaload (k := a) (x := nI (tn_c T a)) dX1_moverOf_21 rfl rfl (rfl) (by omega) (by decide) (TR.cc h ha c1) ?_
        refine ex_aload_n dX1_moverOf_22 rfl rfl ?_
        refine ex_getR (b := 26) dX1_moverOf_23 rfl qp_9_21 rfl rfl ?_
        refine ex_iload_n dX1_moverOf_26 rfl rfl ?_
        refine ex_iaload (k := b) (x := nI (tn_c T b)) dX1_moverOf_27 rfl rfl (rfl) (by omega) (by decide) (TR.cc h hb c2) ?_
        refine ex_icmp_eq (q := 33) (q2 := 31) dX1_moverOf_28 rfl rfl (fun _ => ?_) (fun hh => absurd (congrArg nI (show (tn_c T a) = (tn_c T b) by omega)) hh)
        refine ex_aload_n dX1_moverOf_33 rfl rfl ?_
        refine ex_getR (b := 27) dX1_moverOf_34 rfl qp_9_45 rfl rfl ?_
        refine ex_iload_n dX1_moverOf_37 rfl rfl ?_
        refine ex_iaload (k := a) (x := tn_s T a) dX1_moverOf_38 rfl rfl (rfl) (by omega) (by decide) (TR.ss h ha c1) ?_
        refine ex_aload_n dX1_moverOf_39 rfl rfl ?_
        refine ex_getR (b := 27) dX1_moverOf_40 rfl qp_9_45 rfl rfl ?_
        refine ex_iload_n dX1_moverOf_43 rfl rfl ?_
        refine ex_iaload (k := b) (x := tn_s T b) dX1_moverOf_44 rfl rfl (rfl) (by omega) (by decide) (TR.ss h hb c2) ?_
        refine ex_icmp_le (q := 52) (q2 := 48) dX1_moverOf_45 rfl rfl (fun hh => absurd hh (Int32.not_le.mpr c4)) (fun _ => ?_)
        refine ex_iload_n dX1_moverOf_48 rfl rfl ?_
        refine ex_goto (q := 53) dX1_moverOf_49 rfl ?_
        refine ex_istore (ls' := [some (.ref 22), some (.ref 4), some (.int (nI a)), some (.int (nI b)), some (.int (nI a))]) dX1_moverOf_53 rfl (Nat.le_of_ble_eq_true rfl) rfl rfl ?_
        refine ex_aload_n dX1_moverOf_55 rfl rfl ?_
        refine ex_iconst (x := 2) dX1_moverOf_56 rfl rfl ?_
        refine ex_aload_n dX1_moverOf_57 rfl rfl ?_
        refine ex_iload dX1_moverOf_58 rfl rfl ?_
        refine ex_aload_n dX1_moverOf_60 rfl rfl ?_
        refine ex_getR (b := 26) dX1_moverOf_61 rfl qp_9_21 rfl rfl ?_
        refine ex_iload dX1_moverOf_64 rfl rfl ?_
        refine ex_iaload (k := a) (x := nI (tn_c T a)) dX1_moverOf_66 rfl rfl (rfl) (by omega) (by decide) (TR.cc h hy hyb) ?_
        refine ex_iconst (x := 0) dX1_moverOf_67 rfl rfl ?_
        refine ex_callV (a := 4) (rest := []) dX1_moverOf_68 rfl qp_9_48 rfl rfl rfl rfl rfl (Nat.le_of_ble_eq_true rfl) (hO) (Nat.le_of_ble_eq_true rfl) ?_
        show Ex qm_lay _ mX1_moverOf 71 [some (.ref 22), some (.ref 4), some (.int (nI a)), some (.int (nI b)), some (.int (nI a))] [.int (sx_says T X 2 a (nI (tn_c T a)) 0)] σ' _ _
        refine ex_if_eq (q := 79) (q2 := 74) dX1_moverOf_71 rfl rfl (fun _ => ?_) (fun hh => absurd (c5) hh)
        refine ex_iconst (x := (-1)) dX1_moverOf_79 rfl rfl ?_
        exact ex_iret dX1_moverOf_80 rfl (by rw [if_pos c5]; rfl) rfl
      · refine Ok.of (ls := [some (.ref 22), some (.ref 4), some (.int (nI a)), some (.int (nI b)), none]) (Nat.le_of_ble_eq_true rfl) rfl ?_
        refine ex_aload_n dX1_moverOf_0 rfl rfl ?_
        refine ex_iload_n dX1_moverOf_1 rfl rfl ?_
        refine ex_callV (a := 22) (rest := []) dX1_moverOf_2 rfl qp_9_41 rfl rfl rfl rfl rfl (Nat.le_of_ble_eq_true rfl) (c_isBuilt_0n hT h (by omega)) (Nat.le_of_ble_eq_true rfl) ?_
        show Ex qm_lay _ mX1_moverOf 5 [some (.ref 22), some (.ref 4), some (.int (nI a)), some (.int (nI b)), none] [.int (b2i (Nat.testBit (tn_u T) a))] σ _ _
        refine ex_if_eq (q := 31) (q2 := 8) dX1_moverOf_5 rfl rfl (fun hh => absurd hh (b2i_n0.mpr (c1))) (fun _ => ?_)
        refine ex_aload_n dX1_moverOf_8 rfl rfl ?_
        refine ex_iload_n dX1_moverOf_9 rfl rfl ?_
        refine ex_callV (a := 22) (rest := []) dX1_moverOf_10 rfl qp_9_41 rfl rfl rfl rfl rfl (Nat.le_of_ble_eq_true rfl) (c_isBuilt_0n hT h (by omega)) (Nat.le_of_ble_eq_true rfl) ?_
        show Ex qm_lay _ mX1_moverOf 13 [some (.ref 22), some (.ref 4), some (.int (nI a)), some (.int (nI b)), none] [.int (b2i (Nat.testBit (tn_u T) b))] σ _ _
        refine ex_if_eq (q := 31) (q2 := 16) dX1_moverOf_13 rfl rfl (fun hh => absurd hh (b2i_n0.mpr (c2))) (fun _ => ?_)
        refine ex_aload_n dX1_moverOf_16 rfl rfl ?_
        refine ex_getR (b := 26) dX1_moverOf_17 rfl qp_9_21 rfl rfl ?_
        refine ex_iload_n dX1_moverOf_20 rfl rfl ?_
        refine ex_iaload (k := a) (x := nI (tn_c T a)) dX1_moverOf_21 rfl rfl (rfl) (by omega) (by decide) (TR.cc h ha c1) ?_
        refine ex_aload_n dX1_moverOf_22 rfl rfl ?_
        refine ex_getR (b := 26) dX1_moverOf_23 rfl qp_9_21 rfl rfl ?_
        refine ex_iload_n dX1_moverOf_26 rfl rfl ?_
        refine ex_iaload (k := b) (x := nI (tn_c T b)) dX1_moverOf_27 rfl rfl (rfl) (by omega) (by decide) (TR.cc h hb c2) ?_
        refine ex_icmp_eq (q := 33) (q2 := 31) dX1_moverOf_28 rfl rfl (fun _ => ?_) (fun hh => absurd (congrArg nI (show (tn_c T a) = (tn_c T b) by omega)) hh)
        refine ex_aload_n dX1_moverOf_33 rfl rfl ?_
        refine ex_getR (b := 27) dX1_moverOf_34 rfl qp_9_45 rfl rfl ?_
        refine ex_iload_n dX1_moverOf_37 rfl rfl ?_
        refine ex_iaload (k := a) (x := tn_s T a) dX1_moverOf_38 rfl rfl (rfl) (by omega) (by decide) (TR.ss h ha c1) ?_
        refine ex_aload_n dX1_moverOf_39 rfl rfl ?_
        refine ex_getR (b := 27) dX1_moverOf_40 rfl qp_9_45 rfl rfl ?_
        refine ex_iload_n dX1_moverOf_43 rfl rfl ?_
        refine ex_iaload (k := b) (x := tn_s T b) dX1_moverOf_44 rfl rfl (rfl) (by omega) (by decide) (TR.ss h hb c2) ?_
        refine ex_icmp_le (q := 52) (q2 := 48) dX1_moverOf_45 rfl rfl (fun hh => absurd hh (Int32.not_le.mpr c4)) (fun _ => ?_)
        refine ex_iload_n dX1_moverOf_48 rfl rfl ?_
        refine ex_goto (q := 53) dX1_moverOf_49 rfl ?_
        refine ex_istore (ls' := [some (.ref 22), some (.ref 4), some (.int (nI a)), some (.int (nI b)), some (.int (nI a))]) dX1_moverOf_53 rfl (Nat.le_of_ble_eq_true rfl) rfl rfl ?_
        refine ex_aload_n dX1_moverOf_55 rfl rfl ?_
        refine ex_iconst (x := 2) dX1_moverOf_56 rfl rfl ?_
        refine ex_aload_n dX1_moverOf_57 rfl rfl ?_
        refine ex_iload dX1_moverOf_58 rfl rfl ?_
        refine ex_aload_n dX1_moverOf_60 rfl rfl ?_
        refine ex_getR (b := 26) dX1_moverOf_61 rfl qp_9_21 rfl rfl ?_
        refine ex_iload dX1_moverOf_64 rfl rfl ?_
        refine ex_iaload (k := a) (x := nI (tn_c T a)) dX1_moverOf_66 rfl rfl (rfl) (by omega) (by decide) (TR.cc h hy hyb) ?_
        refine ex_iconst (x := 0) dX1_moverOf_67 rfl rfl ?_
        refine ex_callV (a := 4) (rest := []) dX1_moverOf_68 rfl qp_9_48 rfl rfl rfl rfl rfl (Nat.le_of_ble_eq_true rfl) (hO) (Nat.le_of_ble_eq_true rfl) ?_
        show Ex qm_lay _ mX1_moverOf 71 [some (.ref 22), some (.ref 4), some (.int (nI a)), some (.int (nI b)), some (.int (nI a))] [.int (sx_says T X 2 a (nI (tn_c T a)) 0)] σ' _ _
        refine ex_if_eq (q := 79) (q2 := 74) dX1_moverOf_71 rfl rfl (fun hh => absurd hh (c5)) (fun _ => ?_)
        refine ex_iload dX1_moverOf_74 rfl rfl ?_
        refine ex_goto (q := 80) dX1_moverOf_76 rfl ?_
        exact ex_iret dX1_moverOf_80 rfl (by rw [if_neg c5]; rfl) rfl
    · obtain ⟨hy, hyb, hl⟩ := key b (by rw [if_neg c4]) (by first | exact Or.inl rfl | exact Or.inr rfl)
      rw [hl]
      obtain ⟨σ', hO, hs⟩ := c_says_0 hT hX hw h hXC (part := 2) (by decide) hy (nI (tn_c T b)) 0
      refine ⟨σ', ?_, hs⟩
      by_cases c5 : sx_says T X 2 b (nI (tn_c T b)) 0 = 0
      · refine Ok.of (ls := [some (.ref 22), some (.ref 4), some (.int (nI a)), some (.int (nI b)), none]) (Nat.le_of_ble_eq_true rfl) rfl ?_
        refine ex_aload_n dX1_moverOf_0 rfl rfl ?_
        refine ex_iload_n dX1_moverOf_1 rfl rfl ?_
        refine ex_callV (a := 22) (rest := []) dX1_moverOf_2 rfl qp_9_41 rfl rfl rfl rfl rfl (Nat.le_of_ble_eq_true rfl) (c_isBuilt_0n hT h (by omega)) (Nat.le_of_ble_eq_true rfl) ?_
        show Ex qm_lay _ mX1_moverOf 5 [some (.ref 22), some (.ref 4), some (.int (nI a)), some (.int (nI b)), none] [.int (b2i (Nat.testBit (tn_u T) a))] σ _ _
        refine ex_if_eq (q := 31) (q2 := 8) dX1_moverOf_5 rfl rfl (fun hh => absurd hh (b2i_n0.mpr (c1))) (fun _ => ?_)
        refine ex_aload_n dX1_moverOf_8 rfl rfl ?_
        refine ex_iload_n dX1_moverOf_9 rfl rfl ?_
        refine ex_callV (a := 22) (rest := []) dX1_moverOf_10 rfl qp_9_41 rfl rfl rfl rfl rfl (Nat.le_of_ble_eq_true rfl) (c_isBuilt_0n hT h (by omega)) (Nat.le_of_ble_eq_true rfl) ?_
        show Ex qm_lay _ mX1_moverOf 13 [some (.ref 22), some (.ref 4), some (.int (nI a)), some (.int (nI b)), none] [.int (b2i (Nat.testBit (tn_u T) b))] σ _ _
        refine ex_if_eq (q := 31) (q2 := 16) dX1_moverOf_13 rfl rfl (fun hh => absurd hh (b2i_n0.mpr (c2))) (fun _ => ?_)
        refine ex_aload_n dX1_moverOf_16 rfl rfl ?_
        refine ex_getR (b := 26) dX1_moverOf_17 rfl qp_9_21 rfl rfl ?_
        refine ex_iload_n dX1_moverOf_20 rfl rfl ?_
        refine ex_iaload (k := a) (x := nI (tn_c T a)) dX1_moverOf_21 rfl rfl (rfl) (by omega) (by decide) (TR.cc h ha c1) ?_
        refine ex_aload_n dX1_moverOf_22 rfl rfl ?_
        refine ex_getR (b := 26) dX1_moverOf_23 rfl qp_9_21 rfl rfl ?_
        refine ex_iload_n dX1_moverOf_26 rfl rfl ?_
        refine ex_iaload (k := b) (x := nI (tn_c T b)) dX1_moverOf_27 rfl rfl (rfl) (by omega) (by decide) (TR.cc h hb c2) ?_
        refine ex_icmp_eq (q := 33) (q2 := 31) dX1_moverOf_28 rfl rfl (fun _ => ?_) (fun hh => absurd (congrArg nI (show (tn_c T a) = (tn_c T b) by omega)) hh)
        refine ex_aload_n dX1_moverOf_33 rfl rfl ?_
        refine ex_getR (b := 27) dX1_moverOf_34 rfl qp_9_45 rfl rfl ?_
        refine ex_iload_n dX1_moverOf_37 rfl rfl ?_
        refine ex_iaload (k := a) (x := tn_s T a) dX1_moverOf_38 rfl rfl (rfl) (by omega) (by decide) (TR.ss h ha c1) ?_
        refine ex_aload_n dX1_moverOf_39 rfl rfl ?_
        refine ex_getR (b := 27) dX1_moverOf_40 rfl qp_9_45 rfl rfl ?_
        refine ex_iload_n dX1_moverOf_43 rfl rfl ?_
        refine ex_iaload (k := b) (x := tn_s T b) dX1_moverOf_44 rfl rfl (rfl) (by omega) (by decide) (TR.ss h hb c2) ?_
        refine ex_icmp_le (q := 52) (q2 := 48) dX1_moverOf_45 rfl rfl (fun _ => ?_) (fun hh => absurd (Int32.not_lt.mp c4) hh)
        refine ex_iload_n dX1_moverOf_52 rfl rfl ?_
        refine ex_istore (ls' := [some (.ref 22), some (.ref 4), some (.int (nI a)), some (.int (nI b)), some (.int (nI b))]) dX1_moverOf_53 rfl (Nat.le_of_ble_eq_true rfl) rfl rfl ?_
        refine ex_aload_n dX1_moverOf_55 rfl rfl ?_
        refine ex_iconst (x := 2) dX1_moverOf_56 rfl rfl ?_
        refine ex_aload_n dX1_moverOf_57 rfl rfl ?_
        refine ex_iload dX1_moverOf_58 rfl rfl ?_
        refine ex_aload_n dX1_moverOf_60 rfl rfl ?_
        refine ex_getR (b := 26) dX1_moverOf_61 rfl qp_9_21 rfl rfl ?_
        refine ex_iload dX1_moverOf_64 rfl rfl ?_
        refine ex_iaload (k := b) (x := nI (tn_c T b)) dX1_moverOf_66 rfl rfl (rfl) (by omega) (by decide) (TR.cc h hy hyb) ?_
        refine ex_iconst (x := 0) dX1_moverOf_67 rfl rfl ?_
        refine ex_callV (a := 4) (rest := []) dX1_moverOf_68 rfl qp_9_48 rfl rfl rfl rfl rfl (Nat.le_of_ble_eq_true rfl) (hO) (Nat.le_of_ble_eq_true rfl) ?_
        show Ex qm_lay _ mX1_moverOf 71 [some (.ref 22), some (.ref 4), some (.int (nI a)), some (.int (nI b)), some (.int (nI b))] [.int (sx_says T X 2 b (nI (tn_c T b)) 0)] σ' _ _
        refine ex_if_eq (q := 79) (q2 := 74) dX1_moverOf_71 rfl rfl (fun _ => ?_) (fun hh => absurd (c5) hh)
        refine ex_iconst (x := (-1)) dX1_moverOf_79 rfl rfl ?_
        exact ex_iret dX1_moverOf_80 rfl (by rw [if_pos c5]; rfl) rfl
      · refine Ok.of (ls := [some (.ref 22), some (.ref 4), some (.int (nI a)), some (.int (nI b)), none]) (Nat.le_of_ble_eq_true rfl) rfl ?_
        refine ex_aload_n dX1_moverOf_0 rfl rfl ?_
        refine ex_iload_n dX1_moverOf_1 rfl rfl ?_
        refine ex_callV (a := 22) (rest := []) dX1_moverOf_2 rfl qp_9_41 rfl rfl rfl rfl rfl (Nat.le_of_ble_eq_true rfl) (c_isBuilt_0n hT h (by omega)) (Nat.le_of_ble_eq_true rfl) ?_
        show Ex qm_lay _ mX1_moverOf 5 [some (.ref 22), some (.ref 4), some (.int (nI a)), some (.int (nI b)), none] [.int (b2i (Nat.testBit (tn_u T) a))] σ _ _
        refine ex_if_eq (q := 31) (q2 := 8) dX1_moverOf_5 rfl rfl (fun hh => absurd hh (b2i_n0.mpr (c1))) (fun _ => ?_)
        refine ex_aload_n dX1_moverOf_8 rfl rfl ?_
        refine ex_iload_n dX1_moverOf_9 rfl rfl ?_
        refine ex_callV (a := 22) (rest := []) dX1_moverOf_10 rfl qp_9_41 rfl rfl rfl rfl rfl (Nat.le_of_ble_eq_true rfl) (c_isBuilt_0n hT h (by omega)) (Nat.le_of_ble_eq_true rfl) ?_
        show Ex qm_lay _ mX1_moverOf 13 [some (.ref 22), some (.ref 4), some (.int (nI a)), some (.int (nI b)), none] [.int (b2i (Nat.testBit (tn_u T) b))] σ _ _
        refine ex_if_eq (q := 31) (q2 := 16) dX1_moverOf_13 rfl rfl (fun hh => absurd hh (b2i_n0.mpr (c2))) (fun _ => ?_)
        refine ex_aload_n dX1_moverOf_16 rfl rfl ?_
        refine ex_getR (b := 26) dX1_moverOf_17 rfl qp_9_21 rfl rfl ?_
        refine ex_iload_n dX1_moverOf_20 rfl rfl ?_
        refine ex_iaload (k := a) (x := nI (tn_c T a)) dX1_moverOf_21 rfl rfl (rfl) (by omega) (by decide) (TR.cc h ha c1) ?_
        refine ex_aload_n dX1_moverOf_22 rfl rfl ?_
        refine ex_getR (b := 26) dX1_moverOf_23 rfl qp_9_21 rfl rfl ?_
        refine ex_iload_n dX1_moverOf_26 rfl rfl ?_
        refine ex_iaload (k := b) (x := nI (tn_c T b)) dX1_moverOf_27 rfl rfl (rfl) (by omega) (by decide) (TR.cc h hb c2) ?_
        refine ex_icmp_eq (q := 33) (q2 := 31) dX1_moverOf_28 rfl rfl (fun _ => ?_) (fun hh => absurd (congrArg nI (show (tn_c T a) = (tn_c T b) by omega)) hh)
        refine ex_aload_n dX1_moverOf_33 rfl rfl ?_
        refine ex_getR (b := 27) dX1_moverOf_34 rfl qp_9_45 rfl rfl ?_
        refine ex_iload_n dX1_moverOf_37 rfl rfl ?_
        refine ex_iaload (k := a) (x := tn_s T a) dX1_moverOf_38 rfl rfl (rfl) (by omega) (by decide) (TR.ss h ha c1) ?_
        refine ex_aload_n dX1_moverOf_39 rfl rfl ?_
        refine ex_getR (b := 27) dX1_moverOf_40 rfl qp_9_45 rfl rfl ?_
        refine ex_iload_n dX1_moverOf_43 rfl rfl ?_
        refine ex_iaload (k := b) (x := tn_s T b) dX1_moverOf_44 rfl rfl (rfl) (by omega) (by decide) (TR.ss h hb c2) ?_
        refine ex_icmp_le (q := 52) (q2 := 48) dX1_moverOf_45 rfl rfl (fun _ => ?_) (fun hh => absurd (Int32.not_lt.mp c4) hh)
        refine ex_iload_n dX1_moverOf_52 rfl rfl ?_
        refine ex_istore (ls' := [some (.ref 22), some (.ref 4), some (.int (nI a)), some (.int (nI b)), some (.int (nI b))]) dX1_moverOf_53 rfl (Nat.le_of_ble_eq_true rfl) rfl rfl ?_
        refine ex_aload_n dX1_moverOf_55 rfl rfl ?_
        refine ex_iconst (x := 2) dX1_moverOf_56 rfl rfl ?_
        refine ex_aload_n dX1_moverOf_57 rfl rfl ?_
        refine ex_iload dX1_moverOf_58 rfl rfl ?_
        refine ex_aload_n dX1_moverOf_60 rfl rfl ?_
        refine ex_getR (b := 26) dX1_moverOf_61 rfl qp_9_21 rfl rfl ?_
        refine ex_iload dX1_moverOf_64 rfl rfl ?_
        refine ex_iaload (k := b) (x := nI (tn_c T b)) dX1_moverOf_66 rfl rfl (rfl) (by omega) (by decide) (TR.cc h hy hyb) ?_
        refine ex_iconst (x := 0) dX1_moverOf_67 rfl rfl ?_
        refine ex_callV (a := 4) (rest := []) dX1_moverOf_68 rfl qp_9_48 rfl rfl rfl rfl rfl (Nat.le_of_ble_eq_true rfl) (hO) (Nat.le_of_ble_eq_true rfl) ?_
        show Ex qm_lay _ mX1_moverOf 71 [some (.ref 22), some (.ref 4), some (.int (nI a)), some (.int (nI b)), some (.int (nI b))] [.int (sx_says T X 2 b (nI (tn_c T b)) 0)] σ' _ _
        refine ex_if_eq (q := 79) (q2 := 74) dX1_moverOf_71 rfl rfl (fun hh => absurd hh (c5)) (fun _ => ?_)
        refine ex_iload dX1_moverOf_74 rfl rfl ?_
        refine ex_goto (q := 80) dX1_moverOf_76 rfl ?_
        exact ex_iret dX1_moverOf_80 rfl (by rw [if_neg c5]; rfl) rfl
  · refine ⟨σ, ?_, sm.rf _ _ _ _ _⟩
    have hl : lm_of T X a b = none := if_neg c1
    rw [hl]
    refine Ok.of (ls := [some (.ref 22), some (.ref 4), some (.int (nI a)), some (.int (nI b)), none]) (Nat.le_of_ble_eq_true rfl) rfl ?_
    refine ex_aload_n dX1_moverOf_0 rfl rfl ?_
    refine ex_iload_n dX1_moverOf_1 rfl rfl ?_
    refine ex_callV (a := 22) (rest := []) dX1_moverOf_2 rfl qp_9_41 rfl rfl rfl rfl rfl (Nat.le_of_ble_eq_true rfl) (c_isBuilt_0n hT h (by omega)) (Nat.le_of_ble_eq_true rfl) ?_
    show Ex qm_lay _ mX1_moverOf 5 [some (.ref 22), some (.ref 4), some (.int (nI a)), some (.int (nI b)), none] [.int (b2i (Nat.testBit (tn_u T) a))] σ _ _
    refine ex_if_eq (q := 31) (q2 := 8) dX1_moverOf_5 rfl rfl (fun h5 => ?_) (fun h5 => ?_)
    · have hb5 : (Nat.testBit (tn_u T) a) = false := b2i_0.mp h5
      refine ex_iconst (x := (-1)) dX1_moverOf_31 rfl rfl ?_
      exact ex_iret dX1_moverOf_32 rfl rfl rfl
    · have hb5 : (Nat.testBit (tn_u T) a) = true := b2i_n0.mp h5
      refine ex_aload_n dX1_moverOf_8 rfl rfl ?_
      refine ex_iload_n dX1_moverOf_9 rfl rfl ?_
      refine ex_callV (a := 22) (rest := []) dX1_moverOf_10 rfl qp_9_41 rfl rfl rfl rfl rfl (Nat.le_of_ble_eq_true rfl) (c_isBuilt_0n hT h (by omega)) (Nat.le_of_ble_eq_true rfl) ?_
      show Ex qm_lay _ mX1_moverOf 13 [some (.ref 22), some (.ref 4), some (.int (nI a)), some (.int (nI b)), none] [.int (b2i (Nat.testBit (tn_u T) b))] σ _ _
      refine ex_if_eq (q := 31) (q2 := 16) dX1_moverOf_13 rfl rfl (fun h13 => ?_) (fun h13 => ?_)
      · have hb13 : (Nat.testBit (tn_u T) b) = false := b2i_0.mp h13
        refine ex_iconst (x := (-1)) dX1_moverOf_31 rfl rfl ?_
        exact ex_iret dX1_moverOf_32 rfl rfl rfl
      · have hb13 : (Nat.testBit (tn_u T) b) = true := b2i_n0.mp h13
        have c2 := b2i_n0.mp h13
        have c0 := b2i_n0.mp h5
        have ga := (hT.2.2.2 a ha).2.2.2.2.1 c0
        have gb := (hT.2.2.2 b hb).2.2.2.2.1 c2
        have cne : ¬ tn_c T a = tn_c T b := fun z => c1 ⟨c0, c2, z⟩
        refine ex_aload_n dX1_moverOf_16 rfl rfl ?_
        refine ex_getR (b := 26) dX1_moverOf_17 rfl qp_9_21 rfl rfl ?_
        refine ex_iload_n dX1_moverOf_20 rfl rfl ?_
        refine ex_iaload (k := a) (x := nI (tn_c T a)) dX1_moverOf_21 rfl rfl (rfl) (by omega) (by decide) (TR.cc h ha c0) ?_
        refine ex_aload_n dX1_moverOf_22 rfl rfl ?_
        refine ex_getR (b := 26) dX1_moverOf_23 rfl qp_9_21 rfl rfl ?_
        refine ex_iload_n dX1_moverOf_26 rfl rfl ?_
        refine ex_iaload (k := b) (x := nI (tn_c T b)) dX1_moverOf_27 rfl rfl (rfl) (by omega) (by decide) (TR.cc h hb c2) ?_
        refine ex_icmp_eq (q := 33) (q2 := 31) dX1_moverOf_28 rfl rfl (fun hh => absurd hh (fun zz => absurd ((nI_eq (a := (tn_c T a)) (b := (tn_c T b)) (by omega) (by omega)).mp zz) (by omega))) (fun _ => ?_)
        refine ex_iconst (x := (-1)) dX1_moverOf_31 rfl rfl ?_
        exact ex_iret dX1_moverOf_32 rfl rfl rfl

set_option maxHeartbeats 2000000 in
theorem c_moverOf_1 {σ : qm_St} {T : tn_T} {X : gx_T} (hX : gx_ok X) (hT : tn_ok T) (hw : tn_w T < gx_n X) (h : TR σ 13 23 T) (hXC : XC σ X) {a b : Nat} (ha : a < tn_L T) (hb : b < tn_L T) : ∃ σ', Ok qm_lay 12 mX1_moverOf [.ref 28, .ref 4, .int (nI a), .int (nI b)] σ (some (.int (oi (lm_of T X a b)))) σ' ∧ sm σ σ' 8 8 4 6 := by
  have hL := hT.1
  by_cases c1 : (tn_u T).testBit a = true ∧ (tn_u T).testBit b = true ∧ tn_c T a = tn_c T b
  · obtain ⟨c1, c2, c3⟩ := c1
    have ga := (hT.2.2.2 a ha).2.2.2.2.1 c1
    have gb := (hT.2.2.2 b hb).2.2.2.2.1 c2
    have key : ∀ y, y = (if tn_s T b < tn_s T a then a else b) → (y = a ∨ y = b) → y < tn_L T ∧ (tn_u T).testBit y = true ∧ lm_of T X a b = (if sx_says T X 2 y (nI (tn_c T y)) 0 = 0 then none else some y) := fun y hy hy2 => by
      refine ⟨by rcases hy2 with e | e <;> omega, by rcases hy2 with e | e <;> rw [e] <;> assumption, ?_⟩
      rw [lm_of, if_pos ⟨c1, c2, c3⟩, hy]
    by_cases c4 : tn_s T b < tn_s T a
    · obtain ⟨hy, hyb, hl⟩ := key a (by rw [if_pos c4]) (by first | exact Or.inl rfl | exact Or.inr rfl)
      rw [hl]
      obtain ⟨σ', hO, hs⟩ := c_says_1 hT hX hw h hXC (part := 2) (by decide) hy (nI (tn_c T a)) 0
      refine ⟨σ', ?_, hs⟩
      by_cases c5 : sx_says T X 2 a (nI (tn_c T a)) 0 = 0
      · refine Ok.of (ls := [some (.ref 28), some (.ref 4), some (.int (nI a)), some (.int (nI b)), none]) (Nat.le_of_ble_eq_true rfl) rfl ?_
        refine ex_aload_n dX1_moverOf_0 rfl rfl ?_
        refine ex_iload_n dX1_moverOf_1 rfl rfl ?_
        refine ex_callV (a := 28) (rest := []) dX1_moverOf_2 rfl qp_9_41 rfl rfl rfl rfl rfl (Nat.le_of_ble_eq_true rfl) (c_isBuilt_1n hT h (by omega)) (Nat.le_of_ble_eq_true rfl) ?_
        show Ex qm_lay _ mX1_moverOf 5 [some (.ref 28), some (.ref 4), some (.int (nI a)), some (.int (nI b)), none] [.int (b2i (Nat.testBit (tn_u T) a))] σ _ _
        refine ex_if_eq (q := 31) (q2 := 8) dX1_moverOf_5 rfl rfl (fun hh => absurd hh (b2i_n0.mpr (c1))) (fun _ => ?_)
        refine ex_aload_n dX1_moverOf_8 rfl rfl ?_
        refine ex_iload_n dX1_moverOf_9 rfl rfl ?_
        refine ex_callV (a := 28) (rest := []) dX1_moverOf_10 rfl qp_9_41 rfl rfl rfl rfl rfl (Nat.le_of_ble_eq_true rfl) (c_isBuilt_1n hT h (by omega)) (Nat.le_of_ble_eq_true rfl) ?_
        show Ex qm_lay _ mX1_moverOf 13 [some (.ref 28), some (.ref 4), some (.int (nI a)), some (.int (nI b)), none] [.int (b2i (Nat.testBit (tn_u T) b))] σ _ _
        refine ex_if_eq (q := 31) (q2 := 16) dX1_moverOf_13 rfl rfl (fun hh => absurd hh (b2i_n0.mpr (c2))) (fun _ => ?_)
        refine ex_aload_n dX1_moverOf_16 rfl rfl ?_
        refine ex_getR (b := 32) dX1_moverOf_17 rfl qp_9_21 rfl rfl ?_
        refine ex_iload_n dX1_moverOf_20 rfl rfl ?_
        refine ex_iaload (k := a) (x := nI (tn_c T a)) dX1_moverOf_21 rfl rfl (rfl) (by omega) (by decide) (TR.cc h ha c1) ?_
        refine ex_aload_n dX1_moverOf_22 rfl rfl ?_
        refine ex_getR (b := 32) dX1_moverOf_23 rfl qp_9_21 rfl rfl ?_
        refine ex_iload_n dX1_moverOf_26 rfl rfl ?_
        refine ex_iaload (k := b) (x := nI (tn_c T b)) dX1_moverOf_27 rfl rfl (rfl) (by omega) (by decide) (TR.cc h hb c2) ?_
        refine ex_icmp_eq (q := 33) (q2 := 31) dX1_moverOf_28 rfl rfl (fun _ => ?_) (fun hh => absurd (congrArg nI (show (tn_c T a) = (tn_c T b) by omega)) hh)
        refine ex_aload_n dX1_moverOf_33 rfl rfl ?_
        refine ex_getR (b := 33) dX1_moverOf_34 rfl qp_9_45 rfl rfl ?_
        refine ex_iload_n dX1_moverOf_37 rfl rfl ?_
        refine ex_iaload (k := a) (x := tn_s T a) dX1_moverOf_38 rfl rfl (rfl) (by omega) (by decide) (TR.ss h ha c1) ?_
        refine ex_aload_n dX1_moverOf_39 rfl rfl ?_
        refine ex_getR (b := 33) dX1_moverOf_40 rfl qp_9_45 rfl rfl ?_
        refine ex_iload_n dX1_moverOf_43 rfl rfl ?_
        refine ex_iaload (k := b) (x := tn_s T b) dX1_moverOf_44 rfl rfl (rfl) (by omega) (by decide) (TR.ss h hb c2) ?_
        refine ex_icmp_le (q := 52) (q2 := 48) dX1_moverOf_45 rfl rfl (fun hh => absurd hh (Int32.not_le.mpr c4)) (fun _ => ?_)
        refine ex_iload_n dX1_moverOf_48 rfl rfl ?_
        refine ex_goto (q := 53) dX1_moverOf_49 rfl ?_
        refine ex_istore (ls' := [some (.ref 28), some (.ref 4), some (.int (nI a)), some (.int (nI b)), some (.int (nI a))]) dX1_moverOf_53 rfl (Nat.le_of_ble_eq_true rfl) rfl rfl ?_
        refine ex_aload_n dX1_moverOf_55 rfl rfl ?_
        refine ex_iconst (x := 2) dX1_moverOf_56 rfl rfl ?_
        refine ex_aload_n dX1_moverOf_57 rfl rfl ?_
        refine ex_iload dX1_moverOf_58 rfl rfl ?_
        refine ex_aload_n dX1_moverOf_60 rfl rfl ?_
        refine ex_getR (b := 32) dX1_moverOf_61 rfl qp_9_21 rfl rfl ?_
        refine ex_iload dX1_moverOf_64 rfl rfl ?_
        refine ex_iaload (k := a) (x := nI (tn_c T a)) dX1_moverOf_66 rfl rfl (rfl) (by omega) (by decide) (TR.cc h hy hyb) ?_
        refine ex_iconst (x := 0) dX1_moverOf_67 rfl rfl ?_
        refine ex_callV (a := 4) (rest := []) dX1_moverOf_68 rfl qp_9_48 rfl rfl rfl rfl rfl (Nat.le_of_ble_eq_true rfl) (hO) (Nat.le_of_ble_eq_true rfl) ?_
        show Ex qm_lay _ mX1_moverOf 71 [some (.ref 28), some (.ref 4), some (.int (nI a)), some (.int (nI b)), some (.int (nI a))] [.int (sx_says T X 2 a (nI (tn_c T a)) 0)] σ' _ _
        refine ex_if_eq (q := 79) (q2 := 74) dX1_moverOf_71 rfl rfl (fun _ => ?_) (fun hh => absurd (c5) hh)
        refine ex_iconst (x := (-1)) dX1_moverOf_79 rfl rfl ?_
        exact ex_iret dX1_moverOf_80 rfl (by rw [if_pos c5]; rfl) rfl
      · refine Ok.of (ls := [some (.ref 28), some (.ref 4), some (.int (nI a)), some (.int (nI b)), none]) (Nat.le_of_ble_eq_true rfl) rfl ?_
        refine ex_aload_n dX1_moverOf_0 rfl rfl ?_
        refine ex_iload_n dX1_moverOf_1 rfl rfl ?_
        refine ex_callV (a := 28) (rest := []) dX1_moverOf_2 rfl qp_9_41 rfl rfl rfl rfl rfl (Nat.le_of_ble_eq_true rfl) (c_isBuilt_1n hT h (by omega)) (Nat.le_of_ble_eq_true rfl) ?_
        show Ex qm_lay _ mX1_moverOf 5 [some (.ref 28), some (.ref 4), some (.int (nI a)), some (.int (nI b)), none] [.int (b2i (Nat.testBit (tn_u T) a))] σ _ _
        refine ex_if_eq (q := 31) (q2 := 8) dX1_moverOf_5 rfl rfl (fun hh => absurd hh (b2i_n0.mpr (c1))) (fun _ => ?_)
        refine ex_aload_n dX1_moverOf_8 rfl rfl ?_
        refine ex_iload_n dX1_moverOf_9 rfl rfl ?_
        refine ex_callV (a := 28) (rest := []) dX1_moverOf_10 rfl qp_9_41 rfl rfl rfl rfl rfl (Nat.le_of_ble_eq_true rfl) (c_isBuilt_1n hT h (by omega)) (Nat.le_of_ble_eq_true rfl) ?_
        show Ex qm_lay _ mX1_moverOf 13 [some (.ref 28), some (.ref 4), some (.int (nI a)), some (.int (nI b)), none] [.int (b2i (Nat.testBit (tn_u T) b))] σ _ _
        refine ex_if_eq (q := 31) (q2 := 16) dX1_moverOf_13 rfl rfl (fun hh => absurd hh (b2i_n0.mpr (c2))) (fun _ => ?_)
        refine ex_aload_n dX1_moverOf_16 rfl rfl ?_
        refine ex_getR (b := 32) dX1_moverOf_17 rfl qp_9_21 rfl rfl ?_
        refine ex_iload_n dX1_moverOf_20 rfl rfl ?_
        refine ex_iaload (k := a) (x := nI (tn_c T a)) dX1_moverOf_21 rfl rfl (rfl) (by omega) (by decide) (TR.cc h ha c1) ?_
        refine ex_aload_n dX1_moverOf_22 rfl rfl ?_
        refine ex_getR (b := 32) dX1_moverOf_23 rfl qp_9_21 rfl rfl ?_
        refine ex_iload_n dX1_moverOf_26 rfl rfl ?_
        refine ex_iaload (k := b) (x := nI (tn_c T b)) dX1_moverOf_27 rfl rfl (rfl) (by omega) (by decide) (TR.cc h hb c2) ?_
        refine ex_icmp_eq (q := 33) (q2 := 31) dX1_moverOf_28 rfl rfl (fun _ => ?_) (fun hh => absurd (congrArg nI (show (tn_c T a) = (tn_c T b) by omega)) hh)
        refine ex_aload_n dX1_moverOf_33 rfl rfl ?_
        refine ex_getR (b := 33) dX1_moverOf_34 rfl qp_9_45 rfl rfl ?_
        refine ex_iload_n dX1_moverOf_37 rfl rfl ?_
        refine ex_iaload (k := a) (x := tn_s T a) dX1_moverOf_38 rfl rfl (rfl) (by omega) (by decide) (TR.ss h ha c1) ?_
        refine ex_aload_n dX1_moverOf_39 rfl rfl ?_
        refine ex_getR (b := 33) dX1_moverOf_40 rfl qp_9_45 rfl rfl ?_
        refine ex_iload_n dX1_moverOf_43 rfl rfl ?_
        refine ex_iaload (k := b) (x := tn_s T b) dX1_moverOf_44 rfl rfl (rfl) (by omega) (by decide) (TR.ss h hb c2) ?_
        refine ex_icmp_le (q := 52) (q2 := 48) dX1_moverOf_45 rfl rfl (fun hh => absurd hh (Int32.not_le.mpr c4)) (fun _ => ?_)
        refine ex_iload_n dX1_moverOf_48 rfl rfl ?_
        refine ex_goto (q := 53) dX1_moverOf_49 rfl ?_
        refine ex_istore (ls' := [some (.ref 28), some (.ref 4), some (.int (nI a)), some (.int (nI b)), some (.int (nI a))]) dX1_moverOf_53 rfl (Nat.le_of_ble_eq_true rfl) rfl rfl ?_
        refine ex_aload_n dX1_moverOf_55 rfl rfl ?_
        refine ex_iconst (x := 2) dX1_moverOf_56 rfl rfl ?_
        refine ex_aload_n dX1_moverOf_57 rfl rfl ?_
        refine ex_iload dX1_moverOf_58 rfl rfl ?_
        refine ex_aload_n dX1_moverOf_60 rfl rfl ?_
        refine ex_getR (b := 32) dX1_moverOf_61 rfl qp_9_21 rfl rfl ?_
        refine ex_iload dX1_moverOf_64 rfl rfl ?_
        refine ex_iaload (k := a) (x := nI (tn_c T a)) dX1_moverOf_66 rfl rfl (rfl) (by omega) (by decide) (TR.cc h hy hyb) ?_
        refine ex_iconst (x := 0) dX1_moverOf_67 rfl rfl ?_
        refine ex_callV (a := 4) (rest := []) dX1_moverOf_68 rfl qp_9_48 rfl rfl rfl rfl rfl (Nat.le_of_ble_eq_true rfl) (hO) (Nat.le_of_ble_eq_true rfl) ?_
        show Ex qm_lay _ mX1_moverOf 71 [some (.ref 28), some (.ref 4), some (.int (nI a)), some (.int (nI b)), some (.int (nI a))] [.int (sx_says T X 2 a (nI (tn_c T a)) 0)] σ' _ _
        refine ex_if_eq (q := 79) (q2 := 74) dX1_moverOf_71 rfl rfl (fun hh => absurd hh (c5)) (fun _ => ?_)
        refine ex_iload dX1_moverOf_74 rfl rfl ?_
        refine ex_goto (q := 80) dX1_moverOf_76 rfl ?_
        exact ex_iret dX1_moverOf_80 rfl (by rw [if_neg c5]; rfl) rfl
    · obtain ⟨hy, hyb, hl⟩ := key b (by rw [if_neg c4]) (by first | exact Or.inl rfl | exact Or.inr rfl)
      rw [hl]
      obtain ⟨σ', hO, hs⟩ := c_says_1 hT hX hw h hXC (part := 2) (by decide) hy (nI (tn_c T b)) 0
      refine ⟨σ', ?_, hs⟩
      by_cases c5 : sx_says T X 2 b (nI (tn_c T b)) 0 = 0
      · refine Ok.of (ls := [some (.ref 28), some (.ref 4), some (.int (nI a)), some (.int (nI b)), none]) (Nat.le_of_ble_eq_true rfl) rfl ?_
        refine ex_aload_n dX1_moverOf_0 rfl rfl ?_
        refine ex_iload_n dX1_moverOf_1 rfl rfl ?_
        refine ex_callV (a := 28) (rest := []) dX1_moverOf_2 rfl qp_9_41 rfl rfl rfl rfl rfl (Nat.le_of_ble_eq_true rfl) (c_isBuilt_1n hT h (by omega)) (Nat.le_of_ble_eq_true rfl) ?_
        show Ex qm_lay _ mX1_moverOf 5 [some (.ref 28), some (.ref 4), some (.int (nI a)), some (.int (nI b)), none] [.int (b2i (Nat.testBit (tn_u T) a))] σ _ _
        refine ex_if_eq (q := 31) (q2 := 8) dX1_moverOf_5 rfl rfl (fun hh => absurd hh (b2i_n0.mpr (c1))) (fun _ => ?_)
        refine ex_aload_n dX1_moverOf_8 rfl rfl ?_
        refine ex_iload_n dX1_moverOf_9 rfl rfl ?_
        refine ex_callV (a := 28) (rest := []) dX1_moverOf_10 rfl qp_9_41 rfl rfl rfl rfl rfl (Nat.le_of_ble_eq_true rfl) (c_isBuilt_1n hT h (by omega)) (Nat.le_of_ble_eq_true rfl) ?_
        show Ex qm_lay _ mX1_moverOf 13 [some (.ref 28), some (.ref 4), some (.int (nI a)), some (.int (nI b)), none] [.int (b2i (Nat.testBit (tn_u T) b))] σ _ _
        refine ex_if_eq (q := 31) (q2 := 16) dX1_moverOf_13 rfl rfl (fun hh => absurd hh (b2i_n0.mpr (c2))) (fun _ => ?_)
        refine ex_aload_n dX1_moverOf_16 rfl rfl ?_
        refine ex_getR (b := 32) dX1_moverOf_17 rfl qp_9_21 rfl rfl ?_
        refine ex_iload_n dX1_moverOf_20 rfl rfl ?_
        refine ex_iaload (k := a) (x := nI (tn_c T a)) dX1_moverOf_21 rfl rfl (rfl) (by omega) (by decide) (TR.cc h ha c1) ?_
        refine ex_aload_n dX1_moverOf_22 rfl rfl ?_
        refine ex_getR (b := 32) dX1_moverOf_23 rfl qp_9_21 rfl rfl ?_
        refine ex_iload_n dX1_moverOf_26 rfl rfl ?_
        refine ex_iaload (k := b) (x := nI (tn_c T b)) dX1_moverOf_27 rfl rfl (rfl) (by omega) (by decide) (TR.cc h hb c2) ?_
        refine ex_icmp_eq (q := 33) (q2 := 31) dX1_moverOf_28 rfl rfl (fun _ => ?_) (fun hh => absurd (congrArg nI (show (tn_c T a) = (tn_c T b) by omega)) hh)
        refine ex_aload_n dX1_moverOf_33 rfl rfl ?_
        refine ex_getR (b := 33) dX1_moverOf_34 rfl qp_9_45 rfl rfl ?_
        refine ex_iload_n dX1_moverOf_37 rfl rfl ?_
        refine ex_iaload (k := a) (x := tn_s T a) dX1_moverOf_38 rfl rfl (rfl) (by omega) (by decide) (TR.ss h ha c1) ?_
        refine ex_aload_n dX1_moverOf_39 rfl rfl ?_
        refine ex_getR (b := 33) dX1_moverOf_40 rfl qp_9_45 rfl rfl ?_
        refine ex_iload_n dX1_moverOf_43 rfl rfl ?_
        refine ex_iaload (k := b) (x := tn_s T b) dX1_moverOf_44 rfl rfl (rfl) (by omega) (by decide) (TR.ss h hb c2) ?_
        refine ex_icmp_le (q := 52) (q2 := 48) dX1_moverOf_45 rfl rfl (fun _ => ?_) (fun hh => absurd (Int32.not_lt.mp c4) hh)
        refine ex_iload_n dX1_moverOf_52 rfl rfl ?_
        refine ex_istore (ls' := [some (.ref 28), some (.ref 4), some (.int (nI a)), some (.int (nI b)), some (.int (nI b))]) dX1_moverOf_53 rfl (Nat.le_of_ble_eq_true rfl) rfl rfl ?_
        refine ex_aload_n dX1_moverOf_55 rfl rfl ?_
        refine ex_iconst (x := 2) dX1_moverOf_56 rfl rfl ?_
        refine ex_aload_n dX1_moverOf_57 rfl rfl ?_
        refine ex_iload dX1_moverOf_58 rfl rfl ?_
        refine ex_aload_n dX1_moverOf_60 rfl rfl ?_
        refine ex_getR (b := 32) dX1_moverOf_61 rfl qp_9_21 rfl rfl ?_
        refine ex_iload dX1_moverOf_64 rfl rfl ?_
        refine ex_iaload (k := b) (x := nI (tn_c T b)) dX1_moverOf_66 rfl rfl (rfl) (by omega) (by decide) (TR.cc h hy hyb) ?_
        refine ex_iconst (x := 0) dX1_moverOf_67 rfl rfl ?_
        refine ex_callV (a := 4) (rest := []) dX1_moverOf_68 rfl qp_9_48 rfl rfl rfl rfl rfl (Nat.le_of_ble_eq_true rfl) (hO) (Nat.le_of_ble_eq_true rfl) ?_
        show Ex qm_lay _ mX1_moverOf 71 [some (.ref 28), some (.ref 4), some (.int (nI a)), some (.int (nI b)), some (.int (nI b))] [.int (sx_says T X 2 b (nI (tn_c T b)) 0)] σ' _ _
        refine ex_if_eq (q := 79) (q2 := 74) dX1_moverOf_71 rfl rfl (fun _ => ?_) (fun hh => absurd (c5) hh)
        refine ex_iconst (x := (-1)) dX1_moverOf_79 rfl rfl ?_
        exact ex_iret dX1_moverOf_80 rfl (by rw [if_pos c5]; rfl) rfl
      · refine Ok.of (ls := [some (.ref 28), some (.ref 4), some (.int (nI a)), some (.int (nI b)), none]) (Nat.le_of_ble_eq_true rfl) rfl ?_
        refine ex_aload_n dX1_moverOf_0 rfl rfl ?_
        refine ex_iload_n dX1_moverOf_1 rfl rfl ?_
        refine ex_callV (a := 28) (rest := []) dX1_moverOf_2 rfl qp_9_41 rfl rfl rfl rfl rfl (Nat.le_of_ble_eq_true rfl) (c_isBuilt_1n hT h (by omega)) (Nat.le_of_ble_eq_true rfl) ?_
        show Ex qm_lay _ mX1_moverOf 5 [some (.ref 28), some (.ref 4), some (.int (nI a)), some (.int (nI b)), none] [.int (b2i (Nat.testBit (tn_u T) a))] σ _ _
        refine ex_if_eq (q := 31) (q2 := 8) dX1_moverOf_5 rfl rfl (fun hh => absurd hh (b2i_n0.mpr (c1))) (fun _ => ?_)
        refine ex_aload_n dX1_moverOf_8 rfl rfl ?_
        refine ex_iload_n dX1_moverOf_9 rfl rfl ?_
        refine ex_callV (a := 28) (rest := []) dX1_moverOf_10 rfl qp_9_41 rfl rfl rfl rfl rfl (Nat.le_of_ble_eq_true rfl) (c_isBuilt_1n hT h (by omega)) (Nat.le_of_ble_eq_true rfl) ?_
        show Ex qm_lay _ mX1_moverOf 13 [some (.ref 28), some (.ref 4), some (.int (nI a)), some (.int (nI b)), none] [.int (b2i (Nat.testBit (tn_u T) b))] σ _ _
        refine ex_if_eq (q := 31) (q2 := 16) dX1_moverOf_13 rfl rfl (fun hh => absurd hh (b2i_n0.mpr (c2))) (fun _ => ?_)
        refine ex_aload_n dX1_moverOf_16 rfl rfl ?_
        refine ex_getR (b := 32) dX1_moverOf_17 rfl qp_9_21 rfl rfl ?_
        refine ex_iload_n dX1_moverOf_20 rfl rfl ?_
        refine ex_iaload (k := a) (x := nI (tn_c T a)) dX1_moverOf_21 rfl rfl (rfl) (by omega) (by decide) (TR.cc h ha c1) ?_
        refine ex_aload_n dX1_moverOf_22 rfl rfl ?_
        refine ex_getR (b := 32) dX1_moverOf_23 rfl qp_9_21 rfl rfl ?_
        refine ex_iload_n dX1_moverOf_26 rfl rfl ?_
        refine ex_iaload (k := b) (x := nI (tn_c T b)) dX1_moverOf_27 rfl rfl (rfl) (by omega) (by decide) (TR.cc h hb c2) ?_
        refine ex_icmp_eq (q := 33) (q2 := 31) dX1_moverOf_28 rfl rfl (fun _ => ?_) (fun hh => absurd (congrArg nI (show (tn_c T a) = (tn_c T b) by omega)) hh)
        refine ex_aload_n dX1_moverOf_33 rfl rfl ?_
        refine ex_getR (b := 33) dX1_moverOf_34 rfl qp_9_45 rfl rfl ?_
        refine ex_iload_n dX1_moverOf_37 rfl rfl ?_
        refine ex_iaload (k := a) (x := tn_s T a) dX1_moverOf_38 rfl rfl (rfl) (by omega) (by decide) (TR.ss h ha c1) ?_
        refine ex_aload_n dX1_moverOf_39 rfl rfl ?_
        refine ex_getR (b := 33) dX1_moverOf_40 rfl qp_9_45 rfl rfl ?_
        refine ex_iload_n dX1_moverOf_43 rfl rfl ?_
        refine ex_iaload (k := b) (x := tn_s T b) dX1_moverOf_44 rfl rfl (rfl) (by omega) (by decide) (TR.ss h hb c2) ?_
        refine ex_icmp_le (q := 52) (q2 := 48) dX1_moverOf_45 rfl rfl (fun _ => ?_) (fun hh => absurd (Int32.not_lt.mp c4) hh)
        refine ex_iload_n dX1_moverOf_52 rfl rfl ?_
        refine ex_istore (ls' := [some (.ref 28), some (.ref 4), some (.int (nI a)), some (.int (nI b)), some (.int (nI b))]) dX1_moverOf_53 rfl (Nat.le_of_ble_eq_true rfl) rfl rfl ?_
        refine ex_aload_n dX1_moverOf_55 rfl rfl ?_
        refine ex_iconst (x := 2) dX1_moverOf_56 rfl rfl ?_
        refine ex_aload_n dX1_moverOf_57 rfl rfl ?_
        refine ex_iload dX1_moverOf_58 rfl rfl ?_
        refine ex_aload_n dX1_moverOf_60 rfl rfl ?_
        refine ex_getR (b := 32) dX1_moverOf_61 rfl qp_9_21 rfl rfl ?_
        refine ex_iload dX1_moverOf_64 rfl rfl ?_
        refine ex_iaload (k := b) (x := nI (tn_c T b)) dX1_moverOf_66 rfl rfl (rfl) (by omega) (by decide) (TR.cc h hy hyb) ?_
        refine ex_iconst (x := 0) dX1_moverOf_67 rfl rfl ?_
        refine ex_callV (a := 4) (rest := []) dX1_moverOf_68 rfl qp_9_48 rfl rfl rfl rfl rfl (Nat.le_of_ble_eq_true rfl) (hO) (Nat.le_of_ble_eq_true rfl) ?_
        show Ex qm_lay _ mX1_moverOf 71 [some (.ref 28), some (.ref 4), some (.int (nI a)), some (.int (nI b)), some (.int (nI b))] [.int (sx_says T X 2 b (nI (tn_c T b)) 0)] σ' _ _
        refine ex_if_eq (q := 79) (q2 := 74) dX1_moverOf_71 rfl rfl (fun hh => absurd hh (c5)) (fun _ => ?_)
        refine ex_iload dX1_moverOf_74 rfl rfl ?_
        refine ex_goto (q := 80) dX1_moverOf_76 rfl ?_
        exact ex_iret dX1_moverOf_80 rfl (by rw [if_neg c5]; rfl) rfl
  · refine ⟨σ, ?_, sm.rf _ _ _ _ _⟩
    have hl : lm_of T X a b = none := if_neg c1
    rw [hl]
    refine Ok.of (ls := [some (.ref 28), some (.ref 4), some (.int (nI a)), some (.int (nI b)), none]) (Nat.le_of_ble_eq_true rfl) rfl ?_
    refine ex_aload_n dX1_moverOf_0 rfl rfl ?_
    refine ex_iload_n dX1_moverOf_1 rfl rfl ?_
    refine ex_callV (a := 28) (rest := []) dX1_moverOf_2 rfl qp_9_41 rfl rfl rfl rfl rfl (Nat.le_of_ble_eq_true rfl) (c_isBuilt_1n hT h (by omega)) (Nat.le_of_ble_eq_true rfl) ?_
    show Ex qm_lay _ mX1_moverOf 5 [some (.ref 28), some (.ref 4), some (.int (nI a)), some (.int (nI b)), none] [.int (b2i (Nat.testBit (tn_u T) a))] σ _ _
    refine ex_if_eq (q := 31) (q2 := 8) dX1_moverOf_5 rfl rfl (fun h5 => ?_) (fun h5 => ?_)
    · have hb5 : (Nat.testBit (tn_u T) a) = false := b2i_0.mp h5
      refine ex_iconst (x := (-1)) dX1_moverOf_31 rfl rfl ?_
      exact ex_iret dX1_moverOf_32 rfl rfl rfl
    · have hb5 : (Nat.testBit (tn_u T) a) = true := b2i_n0.mp h5
      refine ex_aload_n dX1_moverOf_8 rfl rfl ?_
      refine ex_iload_n dX1_moverOf_9 rfl rfl ?_
      refine ex_callV (a := 28) (rest := []) dX1_moverOf_10 rfl qp_9_41 rfl rfl rfl rfl rfl (Nat.le_of_ble_eq_true rfl) (c_isBuilt_1n hT h (by omega)) (Nat.le_of_ble_eq_true rfl) ?_
      show Ex qm_lay _ mX1_moverOf 13 [some (.ref 28), some (.ref 4), some (.int (nI a)), some (.int (nI b)), none] [.int (b2i (Nat.testBit (tn_u T) b))] σ _ _
      refine ex_if_eq (q := 31) (q2 := 16) dX1_moverOf_13 rfl rfl (fun h13 => ?_) (fun h13 => ?_)
      · have hb13 : (Nat.testBit (tn_u T) b) = false := b2i_0.mp h13
        refine ex_iconst (x := (-1)) dX1_moverOf_31 rfl rfl ?_
        exact ex_iret dX1_moverOf_32 rfl rfl rfl
      · have hb13 : (Nat.testBit (tn_u T) b) = true := b2i_n0.mp h13
        have c2 := b2i_n0.mp h13
        have c0 := b2i_n0.mp h5
        have ga := (hT.2.2.2 a ha).2.2.2.2.1 c0
        have gb := (hT.2.2.2 b hb).2.2.2.2.1 c2
        have cne : ¬ tn_c T a = tn_c T b := fun z => c1 ⟨c0, c2, z⟩
        refine ex_aload_n dX1_moverOf_16 rfl rfl ?_
        refine ex_getR (b := 32) dX1_moverOf_17 rfl qp_9_21 rfl rfl ?_
        refine ex_iload_n dX1_moverOf_20 rfl rfl ?_
        refine ex_iaload (k := a) (x := nI (tn_c T a)) dX1_moverOf_21 rfl rfl (rfl) (by omega) (by decide) (TR.cc h ha c0) ?_
        refine ex_aload_n dX1_moverOf_22 rfl rfl ?_
        refine ex_getR (b := 32) dX1_moverOf_23 rfl qp_9_21 rfl rfl ?_
        refine ex_iload_n dX1_moverOf_26 rfl rfl ?_
        refine ex_iaload (k := b) (x := nI (tn_c T b)) dX1_moverOf_27 rfl rfl (rfl) (by omega) (by decide) (TR.cc h hb c2) ?_
        refine ex_icmp_eq (q := 33) (q2 := 31) dX1_moverOf_28 rfl rfl (fun hh => absurd hh (fun zz => absurd ((nI_eq (a := (tn_c T a)) (b := (tn_c T b)) (by omega) (by omega)).mp zz) (by omega))) (fun _ => ?_)
        refine ex_iconst (x := (-1)) dX1_moverOf_31 rfl rfl ?_
        exact ex_iret dX1_moverOf_32 rfl rfl rfl

theorem k_younger_a {σ : qm_St} {T : tn_T} (h : MR σ T) (hL : tn_L T ≤ 7) {a b : Nat} (ha : a < tn_L T) (hb : b < tn_L T) (c1 : (tn_u T).testBit a = true) (c2 : (tn_u T).testBit b = true) (c4 : tn_s T b < tn_s T a) : Ok qm_lay 0 mX9_younger [.ref 55, .int (nI a), .int (nI b)] σ (some (.int (nI a))) σ := by
  refine Ok.of (ls := [some (.ref 55), some (.int (nI a)), some (.int (nI b))]) (Nat.le_of_ble_eq_true rfl) rfl ?_
  refine ex_aload_n dX9_younger_0 rfl rfl ?_
  refine ex_getR (b := 60) dX9_younger_1 rfl qp_8_22 rfl rfl ?_
  refine ex_iload_n dX9_younger_4 rfl rfl ?_
  refine ex_iaload (k := a) (x := tn_s T a) dX9_younger_5 rfl rfl (rfl) (by omega) (by decide) ((by rw [show tn_s T a = tn_sv T a from (if_pos c1).symm]; exact MR.ss h ha)) ?_
  refine ex_aload_n dX9_younger_6 rfl rfl ?_
  refine ex_getR (b := 60) dX9_younger_7 rfl qp_8_22 rfl rfl ?_
  refine ex_iload_n dX9_younger_10 rfl rfl ?_
  refine ex_iaload (k := b) (x := tn_s T b) dX9_younger_11 rfl rfl (rfl) (by omega) (by decide) ((by rw [show tn_s T b = tn_sv T b from (if_pos c2).symm]; exact MR.ss h hb)) ?_
  refine ex_icmp_le (q := 19) (q2 := 15) dX9_younger_12 rfl rfl (fun hh => absurd hh (Int32.not_le.mpr c4)) (fun _ => ?_)
  refine ex_iload_n dX9_younger_15 rfl rfl ?_
  refine ex_goto (q := 20) dX9_younger_16 rfl ?_
  exact ex_iret dX9_younger_20 rfl rfl rfl

theorem k_younger_b {σ : qm_St} {T : tn_T} (h : MR σ T) (hL : tn_L T ≤ 7) {a b : Nat} (ha : a < tn_L T) (hb : b < tn_L T) (c1 : (tn_u T).testBit a = true) (c2 : (tn_u T).testBit b = true) (c4 : ¬ tn_s T b < tn_s T a) : Ok qm_lay 0 mX9_younger [.ref 55, .int (nI a), .int (nI b)] σ (some (.int (nI b))) σ := by
  refine Ok.of (ls := [some (.ref 55), some (.int (nI a)), some (.int (nI b))]) (Nat.le_of_ble_eq_true rfl) rfl ?_
  refine ex_aload_n dX9_younger_0 rfl rfl ?_
  refine ex_getR (b := 60) dX9_younger_1 rfl qp_8_22 rfl rfl ?_
  refine ex_iload_n dX9_younger_4 rfl rfl ?_
  refine ex_iaload (k := a) (x := tn_s T a) dX9_younger_5 rfl rfl (rfl) (by omega) (by decide) ((by rw [show tn_s T a = tn_sv T a from (if_pos c1).symm]; exact MR.ss h ha)) ?_
  refine ex_aload_n dX9_younger_6 rfl rfl ?_
  refine ex_getR (b := 60) dX9_younger_7 rfl qp_8_22 rfl rfl ?_
  refine ex_iload_n dX9_younger_10 rfl rfl ?_
  refine ex_iaload (k := b) (x := tn_s T b) dX9_younger_11 rfl rfl (rfl) (by omega) (by decide) ((by rw [show tn_s T b = tn_sv T b from (if_pos c2).symm]; exact MR.ss h hb)) ?_
  refine ex_icmp_le (q := 19) (q2 := 15) dX9_younger_12 rfl rfl (fun _ => ?_) (fun hh => absurd (Int32.not_lt.mp c4) hh)
  refine ex_iload_n dX9_younger_19 rfl rfl ?_
  exact ex_iret dX9_younger_20 rfl rfl rfl

set_option maxHeartbeats 2000000 in
theorem k_movesOf {σ : qm_St} {T : tn_T} {X : gx_T} (hX : gx_ok X) (hT : tn_ok T) (hw : tn_w T < gx_n X) (h : MR σ T) (hXC : XM σ X) {a b : Nat} (ha : a < tn_L T) (hb : b < tn_L T) : ∃ σ', Ok qm_lay 12 mX9_movesOf [.ref 55, .int (nI a), .int (nI b)] σ (some (.int (oi (lm_of T X a b)))) σ' ∧ sm σ σ' 36 36 57 59 := by
  have hL := hT.1
  by_cases c1 : (tn_u T).testBit a = true ∧ (tn_u T).testBit b = true ∧ tn_c T a = tn_c T b
  · obtain ⟨c1, c2, c3⟩ := c1
    have ga := (hT.2.2.2 a ha).2.2.2.2.1 c1
    have gb := (hT.2.2.2 b hb).2.2.2.2.1 c2
    have key : ∀ y, y = (if tn_s T b < tn_s T a then a else b) → (y = a ∨ y = b) → y < tn_L T ∧ (tn_u T).testBit y = true ∧ lm_of T X a b = (if sx_says T X 2 y (nI (tn_c T y)) 0 = 0 then none else some y) := fun y hy hy2 => by
      refine ⟨by rcases hy2 with e | e <;> omega, by rcases hy2 with e | e <;> rw [e] <;> assumption, ?_⟩
      rw [lm_of, if_pos ⟨c1, c2, c3⟩, hy]
    by_cases c4 : tn_s T b < tn_s T a
    · obtain ⟨hy, hyb, hl⟩ := key a (by rw [if_pos c4]) (by first | exact Or.inl rfl | exact Or.inr rfl)
      rw [hl]
      obtain ⟨σ', hO, hs⟩ := k_asksOf hT hX hw h hXC (part := 2) (by decide) hy (nI (tn_c T a)) 0
      refine ⟨σ', ?_, hs⟩
      by_cases c5 : sx_says T X 2 a (nI (tn_c T a)) 0 = 0
      · refine Ok.of (ls := [some (.ref 55), some (.int (nI a)), some (.int (nI b)), none]) (Nat.le_of_ble_eq_true rfl) rfl ?_
        refine ex_aload_n dX9_movesOf_0 rfl rfl ?_
        refine ex_iload_n dX9_movesOf_1 rfl rfl ?_
        refine ex_callV (a := 55) (rest := []) dX9_movesOf_2 rfl qp_8_89 rfl rfl rfl rfl rfl (Nat.le_of_ble_eq_true rfl) (k_isBuilt hT h (by omega)) (Nat.le_of_ble_eq_true rfl) ?_
        show Ex qm_lay _ mX9_movesOf 5 [some (.ref 55), some (.int (nI a)), some (.int (nI b)), none] [.int (b2i (Nat.testBit (tn_u T) a))] σ _ _
        refine ex_if_eq (q := 31) (q2 := 8) dX9_movesOf_5 rfl rfl (fun hh => absurd hh (b2i_n0.mpr (c1))) (fun _ => ?_)
        refine ex_aload_n dX9_movesOf_8 rfl rfl ?_
        refine ex_iload_n dX9_movesOf_9 rfl rfl ?_
        refine ex_callV (a := 55) (rest := []) dX9_movesOf_10 rfl qp_8_89 rfl rfl rfl rfl rfl (Nat.le_of_ble_eq_true rfl) (k_isBuilt hT h (by omega)) (Nat.le_of_ble_eq_true rfl) ?_
        show Ex qm_lay _ mX9_movesOf 13 [some (.ref 55), some (.int (nI a)), some (.int (nI b)), none] [.int (b2i (Nat.testBit (tn_u T) b))] σ _ _
        refine ex_if_eq (q := 31) (q2 := 16) dX9_movesOf_13 rfl rfl (fun hh => absurd hh (b2i_n0.mpr (c2))) (fun _ => ?_)
        refine ex_aload_n dX9_movesOf_16 rfl rfl ?_
        refine ex_getR (b := 59) dX9_movesOf_17 rfl qp_8_19 rfl rfl ?_
        refine ex_iload_n dX9_movesOf_20 rfl rfl ?_
        refine ex_iaload (k := a) (x := nI (tn_c T a)) dX9_movesOf_21 rfl rfl (rfl) (by omega) (by decide) ((by rw [← tn_cv_b c1]; exact MR.cc h ha)) ?_
        refine ex_aload_n dX9_movesOf_22 rfl rfl ?_
        refine ex_getR (b := 59) dX9_movesOf_23 rfl qp_8_19 rfl rfl ?_
        refine ex_iload_n dX9_movesOf_26 rfl rfl ?_
        refine ex_iaload (k := b) (x := nI (tn_c T b)) dX9_movesOf_27 rfl rfl (rfl) (by omega) (by decide) ((by rw [← tn_cv_b c2]; exact MR.cc h hb)) ?_
        refine ex_icmp_eq (q := 33) (q2 := 31) dX9_movesOf_28 rfl rfl (fun _ => ?_) (fun hh => absurd (congrArg nI (show (tn_c T a) = (tn_c T b) by omega)) hh)
        refine ex_aload_n dX9_movesOf_33 rfl rfl ?_
        refine ex_iload_n dX9_movesOf_34 rfl rfl ?_
        refine ex_iload_n dX9_movesOf_35 rfl rfl ?_
        refine ex_callV (a := 55) (rest := []) dX9_movesOf_36 rfl qp_8_211 rfl rfl rfl rfl rfl (Nat.le_of_ble_eq_true rfl) (k_younger_a h hL ha hb c1 c2 c4) (Nat.le_of_ble_eq_true rfl) ?_
        show Ex qm_lay _ mX9_movesOf 39 [some (.ref 55), some (.int (nI a)), some (.int (nI b)), none] [.int (nI a)] σ _ _
        refine ex_istore_n (ls' := [some (.ref 55), some (.int (nI a)), some (.int (nI b)), some (.int (nI a))]) dX9_movesOf_39 rfl (Nat.le_of_ble_eq_true rfl) rfl rfl ?_
        refine ex_aload_n dX9_movesOf_40 rfl rfl ?_
        refine ex_iconst (x := 2) dX9_movesOf_41 rfl rfl ?_
        refine ex_iload_n dX9_movesOf_42 rfl rfl ?_
        refine ex_aload_n dX9_movesOf_43 rfl rfl ?_
        refine ex_getR (b := 59) dX9_movesOf_44 rfl qp_8_19 rfl rfl ?_
        refine ex_iload_n dX9_movesOf_47 rfl rfl ?_
        refine ex_iaload (k := a) (x := nI (tn_c T a)) dX9_movesOf_48 rfl rfl (rfl) (by omega) (by decide) ((by rw [← tn_cv_b hyb]; exact MR.cc h hy)) ?_
        refine ex_iconst (x := 0) dX9_movesOf_49 rfl rfl ?_
        refine ex_callV (a := 55) (rest := []) dX9_movesOf_50 rfl qp_8_179 rfl rfl rfl rfl rfl (Nat.le_of_ble_eq_true rfl) (hO) (Nat.le_of_ble_eq_true rfl) ?_
        show Ex qm_lay _ mX9_movesOf 53 [some (.ref 55), some (.int (nI a)), some (.int (nI b)), some (.int (nI a))] [.int (sx_says T X 2 a (nI (tn_c T a)) 0)] σ' _ _
        refine ex_iconst (x := 1) dX9_movesOf_53 rfl rfl ?_
        refine ex_icmp_ne (q := 61) (q2 := 57) dX9_movesOf_54 rfl rfl (fun _ => ?_) (fun hh => absurd (by rw [c5]; decide) hh)
        refine ex_iconst (x := (-1)) dX9_movesOf_61 rfl rfl ?_
        exact ex_iret dX9_movesOf_62 rfl (by rw [if_pos c5]; rfl) rfl
      · refine Ok.of (ls := [some (.ref 55), some (.int (nI a)), some (.int (nI b)), none]) (Nat.le_of_ble_eq_true rfl) rfl ?_
        refine ex_aload_n dX9_movesOf_0 rfl rfl ?_
        refine ex_iload_n dX9_movesOf_1 rfl rfl ?_
        refine ex_callV (a := 55) (rest := []) dX9_movesOf_2 rfl qp_8_89 rfl rfl rfl rfl rfl (Nat.le_of_ble_eq_true rfl) (k_isBuilt hT h (by omega)) (Nat.le_of_ble_eq_true rfl) ?_
        show Ex qm_lay _ mX9_movesOf 5 [some (.ref 55), some (.int (nI a)), some (.int (nI b)), none] [.int (b2i (Nat.testBit (tn_u T) a))] σ _ _
        refine ex_if_eq (q := 31) (q2 := 8) dX9_movesOf_5 rfl rfl (fun hh => absurd hh (b2i_n0.mpr (c1))) (fun _ => ?_)
        refine ex_aload_n dX9_movesOf_8 rfl rfl ?_
        refine ex_iload_n dX9_movesOf_9 rfl rfl ?_
        refine ex_callV (a := 55) (rest := []) dX9_movesOf_10 rfl qp_8_89 rfl rfl rfl rfl rfl (Nat.le_of_ble_eq_true rfl) (k_isBuilt hT h (by omega)) (Nat.le_of_ble_eq_true rfl) ?_
        show Ex qm_lay _ mX9_movesOf 13 [some (.ref 55), some (.int (nI a)), some (.int (nI b)), none] [.int (b2i (Nat.testBit (tn_u T) b))] σ _ _
        refine ex_if_eq (q := 31) (q2 := 16) dX9_movesOf_13 rfl rfl (fun hh => absurd hh (b2i_n0.mpr (c2))) (fun _ => ?_)
        refine ex_aload_n dX9_movesOf_16 rfl rfl ?_
        refine ex_getR (b := 59) dX9_movesOf_17 rfl qp_8_19 rfl rfl ?_
        refine ex_iload_n dX9_movesOf_20 rfl rfl ?_
        refine ex_iaload (k := a) (x := nI (tn_c T a)) dX9_movesOf_21 rfl rfl (rfl) (by omega) (by decide) ((by rw [← tn_cv_b c1]; exact MR.cc h ha)) ?_
        refine ex_aload_n dX9_movesOf_22 rfl rfl ?_
        refine ex_getR (b := 59) dX9_movesOf_23 rfl qp_8_19 rfl rfl ?_
        refine ex_iload_n dX9_movesOf_26 rfl rfl ?_
        refine ex_iaload (k := b) (x := nI (tn_c T b)) dX9_movesOf_27 rfl rfl (rfl) (by omega) (by decide) ((by rw [← tn_cv_b c2]; exact MR.cc h hb)) ?_
        refine ex_icmp_eq (q := 33) (q2 := 31) dX9_movesOf_28 rfl rfl (fun _ => ?_) (fun hh => absurd (congrArg nI (show (tn_c T a) = (tn_c T b) by omega)) hh)
        refine ex_aload_n dX9_movesOf_33 rfl rfl ?_
        refine ex_iload_n dX9_movesOf_34 rfl rfl ?_
        refine ex_iload_n dX9_movesOf_35 rfl rfl ?_
        refine ex_callV (a := 55) (rest := []) dX9_movesOf_36 rfl qp_8_211 rfl rfl rfl rfl rfl (Nat.le_of_ble_eq_true rfl) (k_younger_a h hL ha hb c1 c2 c4) (Nat.le_of_ble_eq_true rfl) ?_
        show Ex qm_lay _ mX9_movesOf 39 [some (.ref 55), some (.int (nI a)), some (.int (nI b)), none] [.int (nI a)] σ _ _
        refine ex_istore_n (ls' := [some (.ref 55), some (.int (nI a)), some (.int (nI b)), some (.int (nI a))]) dX9_movesOf_39 rfl (Nat.le_of_ble_eq_true rfl) rfl rfl ?_
        refine ex_aload_n dX9_movesOf_40 rfl rfl ?_
        refine ex_iconst (x := 2) dX9_movesOf_41 rfl rfl ?_
        refine ex_iload_n dX9_movesOf_42 rfl rfl ?_
        refine ex_aload_n dX9_movesOf_43 rfl rfl ?_
        refine ex_getR (b := 59) dX9_movesOf_44 rfl qp_8_19 rfl rfl ?_
        refine ex_iload_n dX9_movesOf_47 rfl rfl ?_
        refine ex_iaload (k := a) (x := nI (tn_c T a)) dX9_movesOf_48 rfl rfl (rfl) (by omega) (by decide) ((by rw [← tn_cv_b hyb]; exact MR.cc h hy)) ?_
        refine ex_iconst (x := 0) dX9_movesOf_49 rfl rfl ?_
        refine ex_callV (a := 55) (rest := []) dX9_movesOf_50 rfl qp_8_179 rfl rfl rfl rfl rfl (Nat.le_of_ble_eq_true rfl) (hO) (Nat.le_of_ble_eq_true rfl) ?_
        show Ex qm_lay _ mX9_movesOf 53 [some (.ref 55), some (.int (nI a)), some (.int (nI b)), some (.int (nI a))] [.int (sx_says T X 2 a (nI (tn_c T a)) 0)] σ' _ _
        refine ex_iconst (x := 1) dX9_movesOf_53 rfl rfl ?_
        refine ex_icmp_ne (q := 61) (q2 := 57) dX9_movesOf_54 rfl rfl (fun hh => absurd hh (fun zz => zz ((sx_says2 T X _ _ _).resolve_left c5))) (fun _ => ?_)
        refine ex_iload_n dX9_movesOf_57 rfl rfl ?_
        refine ex_goto (q := 62) dX9_movesOf_58 rfl ?_
        exact ex_iret dX9_movesOf_62 rfl (by rw [if_neg c5]; rfl) rfl
    · obtain ⟨hy, hyb, hl⟩ := key b (by rw [if_neg c4]) (by first | exact Or.inl rfl | exact Or.inr rfl)
      rw [hl]
      obtain ⟨σ', hO, hs⟩ := k_asksOf hT hX hw h hXC (part := 2) (by decide) hy (nI (tn_c T b)) 0
      refine ⟨σ', ?_, hs⟩
      by_cases c5 : sx_says T X 2 b (nI (tn_c T b)) 0 = 0
      · refine Ok.of (ls := [some (.ref 55), some (.int (nI a)), some (.int (nI b)), none]) (Nat.le_of_ble_eq_true rfl) rfl ?_
        refine ex_aload_n dX9_movesOf_0 rfl rfl ?_
        refine ex_iload_n dX9_movesOf_1 rfl rfl ?_
        refine ex_callV (a := 55) (rest := []) dX9_movesOf_2 rfl qp_8_89 rfl rfl rfl rfl rfl (Nat.le_of_ble_eq_true rfl) (k_isBuilt hT h (by omega)) (Nat.le_of_ble_eq_true rfl) ?_
        show Ex qm_lay _ mX9_movesOf 5 [some (.ref 55), some (.int (nI a)), some (.int (nI b)), none] [.int (b2i (Nat.testBit (tn_u T) a))] σ _ _
        refine ex_if_eq (q := 31) (q2 := 8) dX9_movesOf_5 rfl rfl (fun hh => absurd hh (b2i_n0.mpr (c1))) (fun _ => ?_)
        refine ex_aload_n dX9_movesOf_8 rfl rfl ?_
        refine ex_iload_n dX9_movesOf_9 rfl rfl ?_
        refine ex_callV (a := 55) (rest := []) dX9_movesOf_10 rfl qp_8_89 rfl rfl rfl rfl rfl (Nat.le_of_ble_eq_true rfl) (k_isBuilt hT h (by omega)) (Nat.le_of_ble_eq_true rfl) ?_
        show Ex qm_lay _ mX9_movesOf 13 [some (.ref 55), some (.int (nI a)), some (.int (nI b)), none] [.int (b2i (Nat.testBit (tn_u T) b))] σ _ _
        refine ex_if_eq (q := 31) (q2 := 16) dX9_movesOf_13 rfl rfl (fun hh => absurd hh (b2i_n0.mpr (c2))) (fun _ => ?_)
        refine ex_aload_n dX9_movesOf_16 rfl rfl ?_
        refine ex_getR (b := 59) dX9_movesOf_17 rfl qp_8_19 rfl rfl ?_
        refine ex_iload_n dX9_movesOf_20 rfl rfl ?_
        refine ex_iaload (k := a) (x := nI (tn_c T a)) dX9_movesOf_21 rfl rfl (rfl) (by omega) (by decide) ((by rw [← tn_cv_b c1]; exact MR.cc h ha)) ?_
        refine ex_aload_n dX9_movesOf_22 rfl rfl ?_
        refine ex_getR (b := 59) dX9_movesOf_23 rfl qp_8_19 rfl rfl ?_
        refine ex_iload_n dX9_movesOf_26 rfl rfl ?_
        refine ex_iaload (k := b) (x := nI (tn_c T b)) dX9_movesOf_27 rfl rfl (rfl) (by omega) (by decide) ((by rw [← tn_cv_b c2]; exact MR.cc h hb)) ?_
        refine ex_icmp_eq (q := 33) (q2 := 31) dX9_movesOf_28 rfl rfl (fun _ => ?_) (fun hh => absurd (congrArg nI (show (tn_c T a) = (tn_c T b) by omega)) hh)
        refine ex_aload_n dX9_movesOf_33 rfl rfl ?_
        refine ex_iload_n dX9_movesOf_34 rfl rfl ?_
        refine ex_iload_n dX9_movesOf_35 rfl rfl ?_
        refine ex_callV (a := 55) (rest := []) dX9_movesOf_36 rfl qp_8_211 rfl rfl rfl rfl rfl (Nat.le_of_ble_eq_true rfl) (k_younger_b h hL ha hb c1 c2 c4) (Nat.le_of_ble_eq_true rfl) ?_
        show Ex qm_lay _ mX9_movesOf 39 [some (.ref 55), some (.int (nI a)), some (.int (nI b)), none] [.int (nI b)] σ _ _
        refine ex_istore_n (ls' := [some (.ref 55), some (.int (nI a)), some (.int (nI b)), some (.int (nI b))]) dX9_movesOf_39 rfl (Nat.le_of_ble_eq_true rfl) rfl rfl ?_
        refine ex_aload_n dX9_movesOf_40 rfl rfl ?_
        refine ex_iconst (x := 2) dX9_movesOf_41 rfl rfl ?_
        refine ex_iload_n dX9_movesOf_42 rfl rfl ?_
        refine ex_aload_n dX9_movesOf_43 rfl rfl ?_
        refine ex_getR (b := 59) dX9_movesOf_44 rfl qp_8_19 rfl rfl ?_
        refine ex_iload_n dX9_movesOf_47 rfl rfl ?_
        refine ex_iaload (k := b) (x := nI (tn_c T b)) dX9_movesOf_48 rfl rfl (rfl) (by omega) (by decide) ((by rw [← tn_cv_b hyb]; exact MR.cc h hy)) ?_
        refine ex_iconst (x := 0) dX9_movesOf_49 rfl rfl ?_
        refine ex_callV (a := 55) (rest := []) dX9_movesOf_50 rfl qp_8_179 rfl rfl rfl rfl rfl (Nat.le_of_ble_eq_true rfl) (hO) (Nat.le_of_ble_eq_true rfl) ?_
        show Ex qm_lay _ mX9_movesOf 53 [some (.ref 55), some (.int (nI a)), some (.int (nI b)), some (.int (nI b))] [.int (sx_says T X 2 b (nI (tn_c T b)) 0)] σ' _ _
        refine ex_iconst (x := 1) dX9_movesOf_53 rfl rfl ?_
        refine ex_icmp_ne (q := 61) (q2 := 57) dX9_movesOf_54 rfl rfl (fun _ => ?_) (fun hh => absurd (by rw [c5]; decide) hh)
        refine ex_iconst (x := (-1)) dX9_movesOf_61 rfl rfl ?_
        exact ex_iret dX9_movesOf_62 rfl (by rw [if_pos c5]; rfl) rfl
      · refine Ok.of (ls := [some (.ref 55), some (.int (nI a)), some (.int (nI b)), none]) (Nat.le_of_ble_eq_true rfl) rfl ?_
        refine ex_aload_n dX9_movesOf_0 rfl rfl ?_
        refine ex_iload_n dX9_movesOf_1 rfl rfl ?_
        refine ex_callV (a := 55) (rest := []) dX9_movesOf_2 rfl qp_8_89 rfl rfl rfl rfl rfl (Nat.le_of_ble_eq_true rfl) (k_isBuilt hT h (by omega)) (Nat.le_of_ble_eq_true rfl) ?_
        show Ex qm_lay _ mX9_movesOf 5 [some (.ref 55), some (.int (nI a)), some (.int (nI b)), none] [.int (b2i (Nat.testBit (tn_u T) a))] σ _ _
        refine ex_if_eq (q := 31) (q2 := 8) dX9_movesOf_5 rfl rfl (fun hh => absurd hh (b2i_n0.mpr (c1))) (fun _ => ?_)
        refine ex_aload_n dX9_movesOf_8 rfl rfl ?_
        refine ex_iload_n dX9_movesOf_9 rfl rfl ?_
        refine ex_callV (a := 55) (rest := []) dX9_movesOf_10 rfl qp_8_89 rfl rfl rfl rfl rfl (Nat.le_of_ble_eq_true rfl) (k_isBuilt hT h (by omega)) (Nat.le_of_ble_eq_true rfl) ?_
        show Ex qm_lay _ mX9_movesOf 13 [some (.ref 55), some (.int (nI a)), some (.int (nI b)), none] [.int (b2i (Nat.testBit (tn_u T) b))] σ _ _
        refine ex_if_eq (q := 31) (q2 := 16) dX9_movesOf_13 rfl rfl (fun hh => absurd hh (b2i_n0.mpr (c2))) (fun _ => ?_)
        refine ex_aload_n dX9_movesOf_16 rfl rfl ?_
        refine ex_getR (b := 59) dX9_movesOf_17 rfl qp_8_19 rfl rfl ?_
        refine ex_iload_n dX9_movesOf_20 rfl rfl ?_
        refine ex_iaload (k := a) (x := nI (tn_c T a)) dX9_movesOf_21 rfl rfl (rfl) (by omega) (by decide) ((by rw [← tn_cv_b c1]; exact MR.cc h ha)) ?_
        refine ex_aload_n dX9_movesOf_22 rfl rfl ?_
        refine ex_getR (b := 59) dX9_movesOf_23 rfl qp_8_19 rfl rfl ?_
        refine ex_iload_n dX9_movesOf_26 rfl rfl ?_
        refine ex_iaload (k := b) (x := nI (tn_c T b)) dX9_movesOf_27 rfl rfl (rfl) (by omega) (by decide) ((by rw [← tn_cv_b c2]; exact MR.cc h hb)) ?_
        refine ex_icmp_eq (q := 33) (q2 := 31) dX9_movesOf_28 rfl rfl (fun _ => ?_) (fun hh => absurd (congrArg nI (show (tn_c T a) = (tn_c T b) by omega)) hh)
        refine ex_aload_n dX9_movesOf_33 rfl rfl ?_
        refine ex_iload_n dX9_movesOf_34 rfl rfl ?_
        refine ex_iload_n dX9_movesOf_35 rfl rfl ?_
        refine ex_callV (a := 55) (rest := []) dX9_movesOf_36 rfl qp_8_211 rfl rfl rfl rfl rfl (Nat.le_of_ble_eq_true rfl) (k_younger_b h hL ha hb c1 c2 c4) (Nat.le_of_ble_eq_true rfl) ?_
        show Ex qm_lay _ mX9_movesOf 39 [some (.ref 55), some (.int (nI a)), some (.int (nI b)), none] [.int (nI b)] σ _ _
        refine ex_istore_n (ls' := [some (.ref 55), some (.int (nI a)), some (.int (nI b)), some (.int (nI b))]) dX9_movesOf_39 rfl (Nat.le_of_ble_eq_true rfl) rfl rfl ?_
        refine ex_aload_n dX9_movesOf_40 rfl rfl ?_
        refine ex_iconst (x := 2) dX9_movesOf_41 rfl rfl ?_
        refine ex_iload_n dX9_movesOf_42 rfl rfl ?_
        refine ex_aload_n dX9_movesOf_43 rfl rfl ?_
        refine ex_getR (b := 59) dX9_movesOf_44 rfl qp_8_19 rfl rfl ?_
        refine ex_iload_n dX9_movesOf_47 rfl rfl ?_
        refine ex_iaload (k := b) (x := nI (tn_c T b)) dX9_movesOf_48 rfl rfl (rfl) (by omega) (by decide) ((by rw [← tn_cv_b hyb]; exact MR.cc h hy)) ?_
        refine ex_iconst (x := 0) dX9_movesOf_49 rfl rfl ?_
        refine ex_callV (a := 55) (rest := []) dX9_movesOf_50 rfl qp_8_179 rfl rfl rfl rfl rfl (Nat.le_of_ble_eq_true rfl) (hO) (Nat.le_of_ble_eq_true rfl) ?_
        show Ex qm_lay _ mX9_movesOf 53 [some (.ref 55), some (.int (nI a)), some (.int (nI b)), some (.int (nI b))] [.int (sx_says T X 2 b (nI (tn_c T b)) 0)] σ' _ _
        refine ex_iconst (x := 1) dX9_movesOf_53 rfl rfl ?_
        refine ex_icmp_ne (q := 61) (q2 := 57) dX9_movesOf_54 rfl rfl (fun hh => absurd hh (fun zz => zz ((sx_says2 T X _ _ _).resolve_left c5))) (fun _ => ?_)
        refine ex_iload_n dX9_movesOf_57 rfl rfl ?_
        refine ex_goto (q := 62) dX9_movesOf_58 rfl ?_
        exact ex_iret dX9_movesOf_62 rfl (by rw [if_neg c5]; rfl) rfl
  · refine ⟨σ, ?_, sm.rf _ _ _ _ _⟩
    have hl : lm_of T X a b = none := if_neg c1
    rw [hl]
    refine Ok.of (ls := [some (.ref 55), some (.int (nI a)), some (.int (nI b)), none]) (Nat.le_of_ble_eq_true rfl) rfl ?_
    refine ex_aload_n dX9_movesOf_0 rfl rfl ?_
    refine ex_iload_n dX9_movesOf_1 rfl rfl ?_
    refine ex_callV (a := 55) (rest := []) dX9_movesOf_2 rfl qp_8_89 rfl rfl rfl rfl rfl (Nat.le_of_ble_eq_true rfl) (k_isBuilt hT h (by omega)) (Nat.le_of_ble_eq_true rfl) ?_
    show Ex qm_lay _ mX9_movesOf 5 [some (.ref 55), some (.int (nI a)), some (.int (nI b)), none] [.int (b2i (Nat.testBit (tn_u T) a))] σ _ _
    refine ex_if_eq (q := 31) (q2 := 8) dX9_movesOf_5 rfl rfl (fun h5 => ?_) (fun h5 => ?_)
    · have hb5 : (Nat.testBit (tn_u T) a) = false := b2i_0.mp h5
      refine ex_iconst (x := (-1)) dX9_movesOf_31 rfl rfl ?_
      exact ex_iret dX9_movesOf_32 rfl rfl rfl
    · have hb5 : (Nat.testBit (tn_u T) a) = true := b2i_n0.mp h5
      refine ex_aload_n dX9_movesOf_8 rfl rfl ?_
      refine ex_iload_n dX9_movesOf_9 rfl rfl ?_
      refine ex_callV (a := 55) (rest := []) dX9_movesOf_10 rfl qp_8_89 rfl rfl rfl rfl rfl (Nat.le_of_ble_eq_true rfl) (k_isBuilt hT h (by omega)) (Nat.le_of_ble_eq_true rfl) ?_
      show Ex qm_lay _ mX9_movesOf 13 [some (.ref 55), some (.int (nI a)), some (.int (nI b)), none] [.int (b2i (Nat.testBit (tn_u T) b))] σ _ _
      refine ex_if_eq (q := 31) (q2 := 16) dX9_movesOf_13 rfl rfl (fun h13 => ?_) (fun h13 => ?_)
      · have hb13 : (Nat.testBit (tn_u T) b) = false := b2i_0.mp h13
        refine ex_iconst (x := (-1)) dX9_movesOf_31 rfl rfl ?_
        exact ex_iret dX9_movesOf_32 rfl rfl rfl
      · have hb13 : (Nat.testBit (tn_u T) b) = true := b2i_n0.mp h13
        have c2 := b2i_n0.mp h13
        have c0 := b2i_n0.mp h5
        have ga := (hT.2.2.2 a ha).2.2.2.2.1 c0
        have gb := (hT.2.2.2 b hb).2.2.2.2.1 c2
        have cne : ¬ tn_c T a = tn_c T b := fun z => c1 ⟨c0, c2, z⟩
        refine ex_aload_n dX9_movesOf_16 rfl rfl ?_
        refine ex_getR (b := 59) dX9_movesOf_17 rfl qp_8_19 rfl rfl ?_
        refine ex_iload_n dX9_movesOf_20 rfl rfl ?_
        refine ex_iaload (k := a) (x := nI (tn_c T a)) dX9_movesOf_21 rfl rfl (rfl) (by omega) (by decide) ((by rw [← tn_cv_b c0]; exact MR.cc h ha)) ?_
        refine ex_aload_n dX9_movesOf_22 rfl rfl ?_
        refine ex_getR (b := 59) dX9_movesOf_23 rfl qp_8_19 rfl rfl ?_
        refine ex_iload_n dX9_movesOf_26 rfl rfl ?_
        refine ex_iaload (k := b) (x := nI (tn_c T b)) dX9_movesOf_27 rfl rfl (rfl) (by omega) (by decide) ((by rw [← tn_cv_b c2]; exact MR.cc h hb)) ?_
        refine ex_icmp_eq (q := 33) (q2 := 31) dX9_movesOf_28 rfl rfl (fun hh => absurd hh (fun zz => absurd ((nI_eq (a := (tn_c T a)) (b := (tn_c T b)) (by omega) (by omega)).mp zz) (by omega))) (fun _ => ?_)
        refine ex_iconst (x := (-1)) dX9_movesOf_31 rfl rfl ?_
        exact ex_iret dX9_movesOf_32 rfl rfl rfl

set_option maxHeartbeats 2000000 in
theorem l_moverBeside_0 {T : tn_T} {X : gx_T} (hX : gx_ok X) (hT : tn_ok T) (hw : tn_w T < gx_n X) {l : Nat} (hl : l < tn_L T) : ∀ (r k : Nat) (x : Option Value) (σ : qm_St), k + r = tn_L T → TR σ 9 18 T → XC σ X → ∃ σ', Ex qm_lay 14 mX1_moverBeside 2 [some (.ref 22), some (.ref 4), some (.int (nI l)), some (.int (nI k)), x] [] σ (some (.int (oi (lm_go T X l r k)))) σ' ∧ sm σ σ' 8 8 4 6 := by
  have hL := hT.1
  intro r
  induction r with
  | zero =>
    intro k x σ hk h hXC
    refine ⟨σ, ?_, sm.rf _ _ _ _ _⟩
    refine ex_iload_n dX1_moverBeside_2 rfl rfl ?_
    refine ex_aload_n dX1_moverBeside_3 rfl rfl ?_
    refine ex_getI (s := 9) (x := nI (tn_L T)) dX1_moverBeside_4 rfl qp_9_33 rfl rfl (h.1) ?_
    refine ex_icmp_ge (q := 42) (q2 := 10) dX1_moverBeside_7 rfl rfl (fun _ => ?_) (fun hh => absurd (nI_le (by omega) (by omega)) hh)
    refine ex_iconst (x := (-1)) dX1_moverBeside_42 rfl rfl ?_
    exact ex_iret dX1_moverBeside_43 rfl rfl rfl
  | succ r ih =>
    intro k x σ hk h hXC
    rw [lm_go]
    by_cases c1 : (tn_b T l).testBit k = true
    · rw [if_pos c1]
      obtain ⟨σ1, hO, hs⟩ := c_moverOf_0 hX hT hw h hXC hl (show k < tn_L T by omega)
      cases e : lm_of T X l k with
      | some m =>
        rw [e] at hO
        have hm := (lm_of_m e).1
        have hm7 : m < tn_L T := by rcases hm with g | g <;> omega
        refine ⟨σ1, ?_, hs⟩
        refine ex_iload_n dX1_moverBeside_2 rfl rfl ?_
        refine ex_aload_n dX1_moverBeside_3 rfl rfl ?_
        refine ex_getI (s := 9) (x := nI (tn_L T)) dX1_moverBeside_4 rfl qp_9_33 rfl rfl (h.1) ?_
        refine ex_icmp_ge (q := 42) (q2 := 10) dX1_moverBeside_7 rfl rfl (fun hh => absurd hh (nI_ge (by omega) (by omega))) (fun _ => ?_)
        refine ex_aload_n dX1_moverBeside_10 rfl rfl ?_
        refine ex_iload_n dX1_moverBeside_11 rfl rfl ?_
        refine ex_iload_n dX1_moverBeside_12 rfl rfl ?_
        refine ex_callV (a := 22) (rest := []) dX1_moverBeside_13 rfl qp_9_37 rfl rfl rfl rfl rfl (Nat.le_of_ble_eq_true rfl) (c_areBeside_0 hT h (by omega) (by omega)) (Nat.le_of_ble_eq_true rfl) ?_
        show Ex qm_lay _ mX1_moverBeside 16 [some (.ref 22), some (.ref 4), some (.int (nI l)), some (.int (nI k)), x] [.int (b2i (Nat.testBit (tn_b T l) k))] σ _ _
        refine ex_if_eq (q := 36) (q2 := 19) dX1_moverBeside_16 rfl rfl (fun hh => absurd hh (b2i_n0.mpr (c1))) (fun _ => ?_)
        refine ex_aload_n dX1_moverBeside_19 rfl rfl ?_
        refine ex_aload_n dX1_moverBeside_20 rfl rfl ?_
        refine ex_iload_n dX1_moverBeside_21 rfl rfl ?_
        refine ex_iload_n dX1_moverBeside_22 rfl rfl ?_
        refine ex_callS (rest := []) dX1_moverBeside_23 rfl qp_9_15 rfl rfl rfl (Nat.le_of_ble_eq_true rfl) (hO) (Nat.le_of_ble_eq_true rfl) ?_
        show Ex qm_lay _ mX1_moverBeside 26 [some (.ref 22), some (.ref 4), some (.int (nI l)), some (.int (nI k)), x] [.int (nI m)] σ1 _ _
        refine ex_istore (ls' := [some (.ref 22), some (.ref 4), some (.int (nI l)), some (.int (nI k)), some (.int (nI m))]) dX1_moverBeside_26 rfl (Nat.le_of_ble_eq_true rfl) rfl rfl ?_
        refine ex_iload dX1_moverBeside_28 rfl rfl ?_
        refine ex_if_lt (q := 36) (q2 := 33) dX1_moverBeside_30 rfl rfl (fun hh => absurd hh (nI_pos (by omega))) (fun _ => ?_)
        refine ex_iload dX1_moverBeside_33 rfl rfl ?_
        exact ex_iret dX1_moverBeside_35 rfl rfl rfl
      | none =>
        rw [e] at hO
        obtain ⟨σ', hE, hs2⟩ := ih (k + 1) (some (.int (-1))) σ1 (by omega) (h.sm hs (by omega) (by omega)) (hXC.sm hX hs (by omega) (by omega))
        refine ⟨σ', ?_, hs.tr hs2⟩
        refine ex_iload_n dX1_moverBeside_2 rfl rfl ?_
        refine ex_aload_n dX1_moverBeside_3 rfl rfl ?_
        refine ex_getI (s := 9) (x := nI (tn_L T)) dX1_moverBeside_4 rfl qp_9_33 rfl rfl (h.1) ?_
        refine ex_icmp_ge (q := 42) (q2 := 10) dX1_moverBeside_7 rfl rfl (fun hh => absurd hh (nI_ge (by omega) (by omega))) (fun _ => ?_)
        refine ex_aload_n dX1_moverBeside_10 rfl rfl ?_
        refine ex_iload_n dX1_moverBeside_11 rfl rfl ?_
        refine ex_iload_n dX1_moverBeside_12 rfl rfl ?_
        refine ex_callV (a := 22) (rest := []) dX1_moverBeside_13 rfl qp_9_37 rfl rfl rfl rfl rfl (Nat.le_of_ble_eq_true rfl) (c_areBeside_0 hT h (by omega) (by omega)) (Nat.le_of_ble_eq_true rfl) ?_
        show Ex qm_lay _ mX1_moverBeside 16 [some (.ref 22), some (.ref 4), some (.int (nI l)), some (.int (nI k)), x] [.int (b2i (Nat.testBit (tn_b T l) k))] σ _ _
        refine ex_if_eq (q := 36) (q2 := 19) dX1_moverBeside_16 rfl rfl (fun hh => absurd hh (b2i_n0.mpr (c1))) (fun _ => ?_)
        refine ex_aload_n dX1_moverBeside_19 rfl rfl ?_
        refine ex_aload_n dX1_moverBeside_20 rfl rfl ?_
        refine ex_iload_n dX1_moverBeside_21 rfl rfl ?_
        refine ex_iload_n dX1_moverBeside_22 rfl rfl ?_
        refine ex_callS (rest := []) dX1_moverBeside_23 rfl qp_9_15 rfl rfl rfl (Nat.le_of_ble_eq_true rfl) (hO) (Nat.le_of_ble_eq_true rfl) ?_
        show Ex qm_lay _ mX1_moverBeside 26 [some (.ref 22), some (.ref 4), some (.int (nI l)), some (.int (nI k)), x] [.int (-1)] σ1 _ _
        refine ex_istore (ls' := [some (.ref 22), some (.ref 4), some (.int (nI l)), some (.int (nI k)), some (.int (-1))]) dX1_moverBeside_26 rfl (Nat.le_of_ble_eq_true rfl) rfl rfl ?_
        refine ex_iload dX1_moverBeside_28 rfl rfl ?_
        refine ex_if_lt (q := 36) (q2 := 33) dX1_moverBeside_30 rfl rfl (fun _ => ?_) (fun hh => absurd (by decide) hh)
        refine ex_iinc (y := nI (k + 1)) (ls' := [some (.ref 22), some (.ref 4), some (.int (nI l)), some (.int (nI (k + 1))), some (.int (-1))]) dX1_moverBeside_36 rfl rfl rfl (nI_add k 1) rfl ?_
        refine ex_goto (q := 2) dX1_moverBeside_39 rfl ?_
        exact hE
    · rw [if_neg c1]
      obtain ⟨σ', hE, hs2⟩ := ih (k + 1) x σ (by omega) h hXC
      refine ⟨σ', ?_, hs2⟩
      refine ex_iload_n dX1_moverBeside_2 rfl rfl ?_
      refine ex_aload_n dX1_moverBeside_3 rfl rfl ?_
      refine ex_getI (s := 9) (x := nI (tn_L T)) dX1_moverBeside_4 rfl qp_9_33 rfl rfl (h.1) ?_
      refine ex_icmp_ge (q := 42) (q2 := 10) dX1_moverBeside_7 rfl rfl (fun hh => absurd hh (nI_ge (by omega) (by omega))) (fun _ => ?_)
      refine ex_aload_n dX1_moverBeside_10 rfl rfl ?_
      refine ex_iload_n dX1_moverBeside_11 rfl rfl ?_
      refine ex_iload_n dX1_moverBeside_12 rfl rfl ?_
      refine ex_callV (a := 22) (rest := []) dX1_moverBeside_13 rfl qp_9_37 rfl rfl rfl rfl rfl (Nat.le_of_ble_eq_true rfl) (c_areBeside_0 hT h (by omega) (by omega)) (Nat.le_of_ble_eq_true rfl) ?_
      show Ex qm_lay _ mX1_moverBeside 16 [some (.ref 22), some (.ref 4), some (.int (nI l)), some (.int (nI k)), x] [.int (b2i (Nat.testBit (tn_b T l) k))] σ _ _
      refine ex_if_eq (q := 36) (q2 := 19) dX1_moverBeside_16 rfl rfl (fun _ => ?_) (fun hh => absurd (b2i_0.mpr (by simpa using c1)) hh)
      refine ex_iinc (y := nI (k + 1)) (ls' := [some (.ref 22), some (.ref 4), some (.int (nI l)), some (.int (nI (k + 1))), x]) dX1_moverBeside_36 rfl rfl rfl (nI_add k 1) rfl ?_
      refine ex_goto (q := 2) dX1_moverBeside_39 rfl ?_
      exact hE

theorem c_moverBeside_0 {σ : qm_St} {T : tn_T} {X : gx_T} (hX : gx_ok X) (hT : tn_ok T) (hw : tn_w T < gx_n X) (h : TR σ 9 18 T) (hXC : XC σ X) {l : Nat} (hl : l < tn_L T) : ∃ σ', Ok qm_lay 14 mX1_moverBeside [.ref 22, .ref 4, .int (nI l)] σ (some (.int (oi (lm_nx T X l)))) σ' ∧ sm σ σ' 8 8 4 6 := by
  obtain ⟨σ', hE, hs⟩ := l_moverBeside_0 hX hT hw hl (tn_L T) 0 none σ (by omega) h hXC
  refine ⟨σ', ?_, hs⟩
  refine Ok.of (ls := [some (.ref 22), some (.ref 4), some (.int (nI l)), none, none]) (Nat.le_of_ble_eq_true rfl) rfl ?_
  refine ex_iconst (x := 0) dX1_moverBeside_0 rfl rfl ?_
  refine ex_istore_n (ls' := [some (.ref 22), some (.ref 4), some (.int (nI l)), some (.int 0), none]) dX1_moverBeside_1 rfl (Nat.le_of_ble_eq_true rfl) rfl rfl ?_
  exact hE

set_option maxHeartbeats 2000000 in
theorem l_moverBeside_1 {T : tn_T} {X : gx_T} (hX : gx_ok X) (hT : tn_ok T) (hw : tn_w T < gx_n X) {l : Nat} (hl : l < tn_L T) : ∀ (r k : Nat) (x : Option Value) (σ : qm_St), k + r = tn_L T → TR σ 13 23 T → XC σ X → ∃ σ', Ex qm_lay 14 mX1_moverBeside 2 [some (.ref 28), some (.ref 4), some (.int (nI l)), some (.int (nI k)), x] [] σ (some (.int (oi (lm_go T X l r k)))) σ' ∧ sm σ σ' 8 8 4 6 := by
  have hL := hT.1
  intro r
  induction r with
  | zero =>
    intro k x σ hk h hXC
    refine ⟨σ, ?_, sm.rf _ _ _ _ _⟩
    refine ex_iload_n dX1_moverBeside_2 rfl rfl ?_
    refine ex_aload_n dX1_moverBeside_3 rfl rfl ?_
    refine ex_getI (s := 13) (x := nI (tn_L T)) dX1_moverBeside_4 rfl qp_9_33 rfl rfl (h.1) ?_
    refine ex_icmp_ge (q := 42) (q2 := 10) dX1_moverBeside_7 rfl rfl (fun _ => ?_) (fun hh => absurd (nI_le (by omega) (by omega)) hh)
    refine ex_iconst (x := (-1)) dX1_moverBeside_42 rfl rfl ?_
    exact ex_iret dX1_moverBeside_43 rfl rfl rfl
  | succ r ih =>
    intro k x σ hk h hXC
    rw [lm_go]
    by_cases c1 : (tn_b T l).testBit k = true
    · rw [if_pos c1]
      obtain ⟨σ1, hO, hs⟩ := c_moverOf_1 hX hT hw h hXC hl (show k < tn_L T by omega)
      cases e : lm_of T X l k with
      | some m =>
        rw [e] at hO
        have hm := (lm_of_m e).1
        have hm7 : m < tn_L T := by rcases hm with g | g <;> omega
        refine ⟨σ1, ?_, hs⟩
        refine ex_iload_n dX1_moverBeside_2 rfl rfl ?_
        refine ex_aload_n dX1_moverBeside_3 rfl rfl ?_
        refine ex_getI (s := 13) (x := nI (tn_L T)) dX1_moverBeside_4 rfl qp_9_33 rfl rfl (h.1) ?_
        refine ex_icmp_ge (q := 42) (q2 := 10) dX1_moverBeside_7 rfl rfl (fun hh => absurd hh (nI_ge (by omega) (by omega))) (fun _ => ?_)
        refine ex_aload_n dX1_moverBeside_10 rfl rfl ?_
        refine ex_iload_n dX1_moverBeside_11 rfl rfl ?_
        refine ex_iload_n dX1_moverBeside_12 rfl rfl ?_
        refine ex_callV (a := 28) (rest := []) dX1_moverBeside_13 rfl qp_9_37 rfl rfl rfl rfl rfl (Nat.le_of_ble_eq_true rfl) (c_areBeside_1 hT h (by omega) (by omega)) (Nat.le_of_ble_eq_true rfl) ?_
        show Ex qm_lay _ mX1_moverBeside 16 [some (.ref 28), some (.ref 4), some (.int (nI l)), some (.int (nI k)), x] [.int (b2i (Nat.testBit (tn_b T l) k))] σ _ _
        refine ex_if_eq (q := 36) (q2 := 19) dX1_moverBeside_16 rfl rfl (fun hh => absurd hh (b2i_n0.mpr (c1))) (fun _ => ?_)
        refine ex_aload_n dX1_moverBeside_19 rfl rfl ?_
        refine ex_aload_n dX1_moverBeside_20 rfl rfl ?_
        refine ex_iload_n dX1_moverBeside_21 rfl rfl ?_
        refine ex_iload_n dX1_moverBeside_22 rfl rfl ?_
        refine ex_callS (rest := []) dX1_moverBeside_23 rfl qp_9_15 rfl rfl rfl (Nat.le_of_ble_eq_true rfl) (hO) (Nat.le_of_ble_eq_true rfl) ?_
        show Ex qm_lay _ mX1_moverBeside 26 [some (.ref 28), some (.ref 4), some (.int (nI l)), some (.int (nI k)), x] [.int (nI m)] σ1 _ _
        refine ex_istore (ls' := [some (.ref 28), some (.ref 4), some (.int (nI l)), some (.int (nI k)), some (.int (nI m))]) dX1_moverBeside_26 rfl (Nat.le_of_ble_eq_true rfl) rfl rfl ?_
        refine ex_iload dX1_moverBeside_28 rfl rfl ?_
        refine ex_if_lt (q := 36) (q2 := 33) dX1_moverBeside_30 rfl rfl (fun hh => absurd hh (nI_pos (by omega))) (fun _ => ?_)
        refine ex_iload dX1_moverBeside_33 rfl rfl ?_
        exact ex_iret dX1_moverBeside_35 rfl rfl rfl
      | none =>
        rw [e] at hO
        obtain ⟨σ', hE, hs2⟩ := ih (k + 1) (some (.int (-1))) σ1 (by omega) (h.sm hs (by omega) (by omega)) (hXC.sm hX hs (by omega) (by omega))
        refine ⟨σ', ?_, hs.tr hs2⟩
        refine ex_iload_n dX1_moverBeside_2 rfl rfl ?_
        refine ex_aload_n dX1_moverBeside_3 rfl rfl ?_
        refine ex_getI (s := 13) (x := nI (tn_L T)) dX1_moverBeside_4 rfl qp_9_33 rfl rfl (h.1) ?_
        refine ex_icmp_ge (q := 42) (q2 := 10) dX1_moverBeside_7 rfl rfl (fun hh => absurd hh (nI_ge (by omega) (by omega))) (fun _ => ?_)
        refine ex_aload_n dX1_moverBeside_10 rfl rfl ?_
        refine ex_iload_n dX1_moverBeside_11 rfl rfl ?_
        refine ex_iload_n dX1_moverBeside_12 rfl rfl ?_
        refine ex_callV (a := 28) (rest := []) dX1_moverBeside_13 rfl qp_9_37 rfl rfl rfl rfl rfl (Nat.le_of_ble_eq_true rfl) (c_areBeside_1 hT h (by omega) (by omega)) (Nat.le_of_ble_eq_true rfl) ?_
        show Ex qm_lay _ mX1_moverBeside 16 [some (.ref 28), some (.ref 4), some (.int (nI l)), some (.int (nI k)), x] [.int (b2i (Nat.testBit (tn_b T l) k))] σ _ _
        refine ex_if_eq (q := 36) (q2 := 19) dX1_moverBeside_16 rfl rfl (fun hh => absurd hh (b2i_n0.mpr (c1))) (fun _ => ?_)
        refine ex_aload_n dX1_moverBeside_19 rfl rfl ?_
        refine ex_aload_n dX1_moverBeside_20 rfl rfl ?_
        refine ex_iload_n dX1_moverBeside_21 rfl rfl ?_
        refine ex_iload_n dX1_moverBeside_22 rfl rfl ?_
        refine ex_callS (rest := []) dX1_moverBeside_23 rfl qp_9_15 rfl rfl rfl (Nat.le_of_ble_eq_true rfl) (hO) (Nat.le_of_ble_eq_true rfl) ?_
        show Ex qm_lay _ mX1_moverBeside 26 [some (.ref 28), some (.ref 4), some (.int (nI l)), some (.int (nI k)), x] [.int (-1)] σ1 _ _
        refine ex_istore (ls' := [some (.ref 28), some (.ref 4), some (.int (nI l)), some (.int (nI k)), some (.int (-1))]) dX1_moverBeside_26 rfl (Nat.le_of_ble_eq_true rfl) rfl rfl ?_
        refine ex_iload dX1_moverBeside_28 rfl rfl ?_
        refine ex_if_lt (q := 36) (q2 := 33) dX1_moverBeside_30 rfl rfl (fun _ => ?_) (fun hh => absurd (by decide) hh)
        refine ex_iinc (y := nI (k + 1)) (ls' := [some (.ref 28), some (.ref 4), some (.int (nI l)), some (.int (nI (k + 1))), some (.int (-1))]) dX1_moverBeside_36 rfl rfl rfl (nI_add k 1) rfl ?_
        refine ex_goto (q := 2) dX1_moverBeside_39 rfl ?_
        exact hE
    · rw [if_neg c1]
      obtain ⟨σ', hE, hs2⟩ := ih (k + 1) x σ (by omega) h hXC
      refine ⟨σ', ?_, hs2⟩
      refine ex_iload_n dX1_moverBeside_2 rfl rfl ?_
      refine ex_aload_n dX1_moverBeside_3 rfl rfl ?_
      refine ex_getI (s := 13) (x := nI (tn_L T)) dX1_moverBeside_4 rfl qp_9_33 rfl rfl (h.1) ?_
      refine ex_icmp_ge (q := 42) (q2 := 10) dX1_moverBeside_7 rfl rfl (fun hh => absurd hh (nI_ge (by omega) (by omega))) (fun _ => ?_)
      refine ex_aload_n dX1_moverBeside_10 rfl rfl ?_
      refine ex_iload_n dX1_moverBeside_11 rfl rfl ?_
      refine ex_iload_n dX1_moverBeside_12 rfl rfl ?_
      refine ex_callV (a := 28) (rest := []) dX1_moverBeside_13 rfl qp_9_37 rfl rfl rfl rfl rfl (Nat.le_of_ble_eq_true rfl) (c_areBeside_1 hT h (by omega) (by omega)) (Nat.le_of_ble_eq_true rfl) ?_
      show Ex qm_lay _ mX1_moverBeside 16 [some (.ref 28), some (.ref 4), some (.int (nI l)), some (.int (nI k)), x] [.int (b2i (Nat.testBit (tn_b T l) k))] σ _ _
      refine ex_if_eq (q := 36) (q2 := 19) dX1_moverBeside_16 rfl rfl (fun _ => ?_) (fun hh => absurd (b2i_0.mpr (by simpa using c1)) hh)
      refine ex_iinc (y := nI (k + 1)) (ls' := [some (.ref 28), some (.ref 4), some (.int (nI l)), some (.int (nI (k + 1))), x]) dX1_moverBeside_36 rfl rfl rfl (nI_add k 1) rfl ?_
      refine ex_goto (q := 2) dX1_moverBeside_39 rfl ?_
      exact hE

theorem c_moverBeside_1 {σ : qm_St} {T : tn_T} {X : gx_T} (hX : gx_ok X) (hT : tn_ok T) (hw : tn_w T < gx_n X) (h : TR σ 13 23 T) (hXC : XC σ X) {l : Nat} (hl : l < tn_L T) : ∃ σ', Ok qm_lay 14 mX1_moverBeside [.ref 28, .ref 4, .int (nI l)] σ (some (.int (oi (lm_nx T X l)))) σ' ∧ sm σ σ' 8 8 4 6 := by
  obtain ⟨σ', hE, hs⟩ := l_moverBeside_1 hX hT hw hl (tn_L T) 0 none σ (by omega) h hXC
  refine ⟨σ', ?_, hs⟩
  refine Ok.of (ls := [some (.ref 28), some (.ref 4), some (.int (nI l)), none, none]) (Nat.le_of_ble_eq_true rfl) rfl ?_
  refine ex_iconst (x := 0) dX1_moverBeside_0 rfl rfl ?_
  refine ex_istore_n (ls' := [some (.ref 28), some (.ref 4), some (.int (nI l)), some (.int 0), none]) dX1_moverBeside_1 rfl (Nat.le_of_ble_eq_true rfl) rfl rfl ?_
  exact hE

set_option maxHeartbeats 2000000 in
theorem l_nextMoves {T : tn_T} {X : gx_T} (hX : gx_ok X) (hT : tn_ok T) (hw : tn_w T < gx_n X) {l : Nat} (hl : l < tn_L T) : ∀ (r k : Nat) (x : Option Value) (σ : qm_St), k + r = tn_L T → MR σ T → XM σ X → ∃ σ', Ex qm_lay 14 mX9_nextMoves 2 [some (.ref 55), some (.int (nI l)), some (.int (nI k)), x] [] σ (some (.int (oi (lm_go T X l r k)))) σ' ∧ sm σ σ' 36 36 57 59 := by
  have hL := hT.1
  intro r
  induction r with
  | zero =>
    intro k x σ hk h hXC
    refine ⟨σ, ?_, sm.rf _ _ _ _ _⟩
    refine ex_iload_n dX9_nextMoves_2 rfl rfl ?_
    refine ex_aload_n dX9_nextMoves_3 rfl rfl ?_
    refine ex_getI (s := 27) (x := nI (tn_L T)) dX9_nextMoves_4 rfl qp_8_78 rfl rfl (h.1.1) ?_
    refine ex_icmp_ge (q := 43) (q2 := 10) dX9_nextMoves_7 rfl rfl (fun _ => ?_) (fun hh => absurd (nI_le (by omega) (by omega)) hh)
    refine ex_iconst (x := (-1)) dX9_nextMoves_43 rfl rfl ?_
    exact ex_iret dX9_nextMoves_44 rfl rfl rfl
  | succ r ih =>
    intro k x σ hk h hXC
    rw [lm_go]
    by_cases c1 : (tn_b T l).testBit k = true
    · rw [if_pos c1]
      obtain ⟨σ1, hO, hs⟩ := k_movesOf hX hT hw h hXC hl (show k < tn_L T by omega)
      cases e : lm_of T X l k with
      | some m =>
        rw [e] at hO
        have hm := (lm_of_m e).1
        have hm7 : m < tn_L T := by rcases hm with g | g <;> omega
        refine ⟨σ1, ?_, hs⟩
        refine ex_iload_n dX9_nextMoves_2 rfl rfl ?_
        refine ex_aload_n dX9_nextMoves_3 rfl rfl ?_
        refine ex_getI (s := 27) (x := nI (tn_L T)) dX9_nextMoves_4 rfl qp_8_78 rfl rfl (h.1.1) ?_
        refine ex_icmp_ge (q := 43) (q2 := 10) dX9_nextMoves_7 rfl rfl (fun hh => absurd hh (nI_ge (by omega) (by omega))) (fun _ => ?_)
        refine ex_aload_n dX9_nextMoves_10 rfl rfl ?_
        refine ex_iload_n dX9_nextMoves_11 rfl rfl ?_
        refine ex_iload_n dX9_nextMoves_12 rfl rfl ?_
        refine ex_callV (a := 55) (rest := []) dX9_nextMoves_13 rfl qp_8_186 rfl rfl rfl rfl rfl (Nat.le_of_ble_eq_true rfl) (k_areBeside hT h (by omega) (by omega)) (Nat.le_of_ble_eq_true rfl) ?_
        show Ex qm_lay _ mX9_nextMoves 16 [some (.ref 55), some (.int (nI l)), some (.int (nI k)), x] [.int (b2i (Nat.testBit (tn_b T l) k))] σ _ _
        refine ex_if_eq (q := 28) (q2 := 19) dX9_nextMoves_16 rfl rfl (fun hh => absurd hh (b2i_n0.mpr (c1))) (fun _ => ?_)
        refine ex_aload_n dX9_nextMoves_19 rfl rfl ?_
        refine ex_iload_n dX9_nextMoves_20 rfl rfl ?_
        refine ex_iload_n dX9_nextMoves_21 rfl rfl ?_
        refine ex_callV (a := 55) (rest := []) dX9_nextMoves_22 rfl qp_8_214 rfl rfl rfl rfl rfl (Nat.le_of_ble_eq_true rfl) (hO) (Nat.le_of_ble_eq_true rfl) ?_
        show Ex qm_lay _ mX9_nextMoves 25 [some (.ref 55), some (.int (nI l)), some (.int (nI k)), x] [.int (nI m)] σ1 _ _
        refine ex_goto (q := 29) dX9_nextMoves_25 rfl ?_
        refine ex_istore_n (ls' := [some (.ref 55), some (.int (nI l)), some (.int (nI k)), some (.int (nI m))]) dX9_nextMoves_29 rfl (Nat.le_of_ble_eq_true rfl) rfl rfl ?_
        refine ex_iload_n dX9_nextMoves_30 rfl rfl ?_
        refine ex_iconst (x := (-1)) dX9_nextMoves_31 rfl rfl ?_
        refine ex_icmp_eq (q := 37) (q2 := 35) dX9_nextMoves_32 rfl rfl (fun hh => absurd hh (nI_ne_m1 (by omega))) (fun _ => ?_)
        refine ex_iload_n dX9_nextMoves_35 rfl rfl ?_
        exact ex_iret dX9_nextMoves_36 rfl rfl rfl
      | none =>
        rw [e] at hO
        obtain ⟨σ', hE, hs2⟩ := ih (k + 1) (some (.int (-1))) σ1 (by omega) (h.sm hs (by omega) (by omega)) (hXC.sm hs (by omega) (by omega))
        refine ⟨σ', ?_, hs.tr hs2⟩
        refine ex_iload_n dX9_nextMoves_2 rfl rfl ?_
        refine ex_aload_n dX9_nextMoves_3 rfl rfl ?_
        refine ex_getI (s := 27) (x := nI (tn_L T)) dX9_nextMoves_4 rfl qp_8_78 rfl rfl (h.1.1) ?_
        refine ex_icmp_ge (q := 43) (q2 := 10) dX9_nextMoves_7 rfl rfl (fun hh => absurd hh (nI_ge (by omega) (by omega))) (fun _ => ?_)
        refine ex_aload_n dX9_nextMoves_10 rfl rfl ?_
        refine ex_iload_n dX9_nextMoves_11 rfl rfl ?_
        refine ex_iload_n dX9_nextMoves_12 rfl rfl ?_
        refine ex_callV (a := 55) (rest := []) dX9_nextMoves_13 rfl qp_8_186 rfl rfl rfl rfl rfl (Nat.le_of_ble_eq_true rfl) (k_areBeside hT h (by omega) (by omega)) (Nat.le_of_ble_eq_true rfl) ?_
        show Ex qm_lay _ mX9_nextMoves 16 [some (.ref 55), some (.int (nI l)), some (.int (nI k)), x] [.int (b2i (Nat.testBit (tn_b T l) k))] σ _ _
        refine ex_if_eq (q := 28) (q2 := 19) dX9_nextMoves_16 rfl rfl (fun hh => absurd hh (b2i_n0.mpr (c1))) (fun _ => ?_)
        refine ex_aload_n dX9_nextMoves_19 rfl rfl ?_
        refine ex_iload_n dX9_nextMoves_20 rfl rfl ?_
        refine ex_iload_n dX9_nextMoves_21 rfl rfl ?_
        refine ex_callV (a := 55) (rest := []) dX9_nextMoves_22 rfl qp_8_214 rfl rfl rfl rfl rfl (Nat.le_of_ble_eq_true rfl) (hO) (Nat.le_of_ble_eq_true rfl) ?_
        show Ex qm_lay _ mX9_nextMoves 25 [some (.ref 55), some (.int (nI l)), some (.int (nI k)), x] [.int (-1)] σ1 _ _
        refine ex_goto (q := 29) dX9_nextMoves_25 rfl ?_
        refine ex_istore_n (ls' := [some (.ref 55), some (.int (nI l)), some (.int (nI k)), some (.int (-1))]) dX9_nextMoves_29 rfl (Nat.le_of_ble_eq_true rfl) rfl rfl ?_
        refine ex_iload_n dX9_nextMoves_30 rfl rfl ?_
        refine ex_iconst (x := (-1)) dX9_nextMoves_31 rfl rfl ?_
        refine ex_icmp_eq (q := 37) (q2 := 35) dX9_nextMoves_32 rfl rfl (fun _ => ?_) (fun hh => absurd (by decide) hh)
        refine ex_iinc (y := nI (k + 1)) (ls' := [some (.ref 55), some (.int (nI l)), some (.int (nI (k + 1))), some (.int (-1))]) dX9_nextMoves_37 rfl rfl rfl (nI_add k 1) rfl ?_
        refine ex_goto (q := 2) dX9_nextMoves_40 rfl ?_
        exact hE
    · rw [if_neg c1]
      obtain ⟨σ', hE, hs2⟩ := ih (k + 1) (some (.int (-1))) σ (by omega) h hXC
      refine ⟨σ', ?_, hs2⟩
      refine ex_iload_n dX9_nextMoves_2 rfl rfl ?_
      refine ex_aload_n dX9_nextMoves_3 rfl rfl ?_
      refine ex_getI (s := 27) (x := nI (tn_L T)) dX9_nextMoves_4 rfl qp_8_78 rfl rfl (h.1.1) ?_
      refine ex_icmp_ge (q := 43) (q2 := 10) dX9_nextMoves_7 rfl rfl (fun hh => absurd hh (nI_ge (by omega) (by omega))) (fun _ => ?_)
      refine ex_aload_n dX9_nextMoves_10 rfl rfl ?_
      refine ex_iload_n dX9_nextMoves_11 rfl rfl ?_
      refine ex_iload_n dX9_nextMoves_12 rfl rfl ?_
      refine ex_callV (a := 55) (rest := []) dX9_nextMoves_13 rfl qp_8_186 rfl rfl rfl rfl rfl (Nat.le_of_ble_eq_true rfl) (k_areBeside hT h (by omega) (by omega)) (Nat.le_of_ble_eq_true rfl) ?_
      show Ex qm_lay _ mX9_nextMoves 16 [some (.ref 55), some (.int (nI l)), some (.int (nI k)), x] [.int (b2i (Nat.testBit (tn_b T l) k))] σ _ _
      refine ex_if_eq (q := 28) (q2 := 19) dX9_nextMoves_16 rfl rfl (fun _ => ?_) (fun hh => absurd (b2i_0.mpr (by simpa using c1)) hh)
      refine ex_iconst (x := (-1)) dX9_nextMoves_28 rfl rfl ?_
      refine ex_istore_n (ls' := [some (.ref 55), some (.int (nI l)), some (.int (nI k)), some (.int (-1))]) dX9_nextMoves_29 rfl (Nat.le_of_ble_eq_true rfl) rfl rfl ?_
      refine ex_iload_n dX9_nextMoves_30 rfl rfl ?_
      refine ex_iconst (x := (-1)) dX9_nextMoves_31 rfl rfl ?_
      refine ex_icmp_eq (q := 37) (q2 := 35) dX9_nextMoves_32 rfl rfl (fun _ => ?_) (fun hh => absurd (by decide) hh)
      refine ex_iinc (y := nI (k + 1)) (ls' := [some (.ref 55), some (.int (nI l)), some (.int (nI (k + 1))), some (.int (-1))]) dX9_nextMoves_37 rfl rfl rfl (nI_add k 1) rfl ?_
      refine ex_goto (q := 2) dX9_nextMoves_40 rfl ?_
      exact hE

theorem k_nextMoves {σ : qm_St} {T : tn_T} {X : gx_T} (hX : gx_ok X) (hT : tn_ok T) (hw : tn_w T < gx_n X) (h : MR σ T) (hXC : XM σ X) {l : Nat} (hl : l < tn_L T) : ∃ σ', Ok qm_lay 14 mX9_nextMoves [.ref 55, .int (nI l)] σ (some (.int (oi (lm_nx T X l)))) σ' ∧ sm σ σ' 36 36 57 59 := by
  obtain ⟨σ', hE, hs⟩ := l_nextMoves hX hT hw hl (tn_L T) 0 none σ (by omega) h hXC
  refine ⟨σ', ?_, hs⟩
  refine Ok.of (ls := [some (.ref 55), some (.int (nI l)), none, none]) (Nat.le_of_ble_eq_true rfl) rfl ?_
  refine ex_iconst (x := 0) dX9_nextMoves_0 rfl rfl ?_
  refine ex_istore_n (ls' := [some (.ref 55), some (.int (nI l)), some (.int 0), none]) dX9_nextMoves_1 rfl (Nat.le_of_ble_eq_true rfl) rfl rfl ?_
  exact hE

set_option maxHeartbeats 2000000 in
theorem l_openLane_0 {X : gx_T} (hX : gx_ok X) (a b : Nat) : ∀ (f k : Nat) (T : tn_T) (m : Option Nat) (σ : qm_St), k + f = 20 → tn_ok T → tn_w T < gx_n X → (∀ y, m = some y → y < tn_L T ∧ (tn_u T).testBit y = true) → TR σ 9 18 T → XC σ X → ∃ σ', Ex qm_lay 16 mX1_openLane 18 [some (.ref 22), some (.ref 4), some (.int (nI a)), some (.int (nI b)), some (.int (oi m)), some (.int (nI k))] [] σ (some (.int (nI (k + (lm_run X f T m).1)))) σ' ∧ TR σ' 9 18 (lm_run X f T m).2 ∧ XC σ' X ∧ sl σ σ' 9 13 18 23 4 6 := by
  intro f
  induction f with
  | zero =>
    intro k T m σ hk hT hw hm h hXC
    have hL := hT.1
    have e1 : lm_run X 0 T m = (0, T) := by cases m <;> rfl
    rw [e1]
    refine ⟨σ, ?_, h, hXC, sl.rf _ _ _ _ _ _ _⟩
    refine ex_iload dX1_openLane_18 rfl rfl ?_
    refine ex_bipush (x := 20) dX1_openLane_20 rfl rfl ?_
    refine ex_icmp_ge (q := 58) (q2 := 25) dX1_openLane_22 rfl rfl (fun _ => ?_) (fun hh => absurd (nI_le (a := 20) (b := k) (by omega) (by omega)) hh)
    refine ex_iload dX1_openLane_58 rfl rfl ?_
    exact ex_iret dX1_openLane_60 rfl rfl rfl
  | succ f ih =>
    intro k T m σ hk hT hw hm h hXC
    have hL := hT.1
    cases m with
    | none =>
      refine ⟨σ, ?_, h, hXC, sl.rf _ _ _ _ _ _ _⟩
      refine ex_iload dX1_openLane_18 rfl rfl ?_
      refine ex_bipush (x := 20) dX1_openLane_20 rfl rfl ?_
      refine ex_icmp_ge (q := 58) (q2 := 25) dX1_openLane_22 rfl rfl (fun hh => absurd hh (nI_ge (a := k) (b := 20) (by omega) (by omega))) (fun _ => ?_)
      refine ex_iload dX1_openLane_25 rfl rfl ?_
      refine ex_if_lt (q := 58) (q2 := 30) dX1_openLane_27 rfl rfl (fun _ => ?_) (fun hh => absurd (by decide) hh)
      refine ex_iload dX1_openLane_58 rfl rfl ?_
      exact ex_iret dX1_openLane_60 rfl rfl rfl
    | some m =>
      obtain ⟨hm1, hm2⟩ := hm m rfl
      have hT2 : tn_ok (tn_rc T m (tn_wd T m)) := tn_rc_ok hT (tn_wd_le hT m)
      have hok : ∀ y, lm_nx (tn_rc T m (tn_wd T m)) X m = some y → y < tn_L (tn_rc T m (tn_wd T m)) ∧ (tn_u (tn_rc T m (tn_wd T m))).testBit y = true := fun y hy => lm_go_m (T := tn_rc T m (tn_wd T m)) hm1 _ 0 (by omega) hy
      have h2 := TR.rc h m (tn_wd T m)
      have hg : sm σ (qm_wF σ 21 m (nI (tn_wd T m))) 9 13 18 23 := (sm.rf σ 9 13 18 23).wF _ (by omega)
      have hXC2 := hXC.sm hX hg (by omega) (by omega)
      obtain ⟨σ1, hO, hs1⟩ := c_moverBeside_0 (T := tn_rc T m (tn_wd T m)) hX hT2 hw h2 hXC2 hm1
      obtain ⟨σ', hE, hR, hX3, hs3⟩ := ih (k + 1) _ _ σ1 (by omega) hT2 hw hok (h2.sm hs1 (by omega) (by omega)) (hXC2.sm hX hs1 (by omega) (by omega))
      rw [lm_run]
      refine ⟨σ', ?_, hR, hX3, ((hg.l1 4 6).tr (hs1.l2 _ _ _ _)).tr hs3⟩
      rw [show k + ((lm_run X f (tn_rc T m (tn_wd T m)) (lm_nx (tn_rc T m (tn_wd T m)) X m)).1 + 1) = k + 1 + (lm_run X f (tn_rc T m (tn_wd T m)) (lm_nx (tn_rc T m (tn_wd T m)) X m)).1 by omega]
      refine ex_iload dX1_openLane_18 rfl rfl ?_
      refine ex_bipush (x := 20) dX1_openLane_20 rfl rfl ?_
      refine ex_icmp_ge (q := 58) (q2 := 25) dX1_openLane_22 rfl rfl (fun hh => absurd hh (nI_ge (a := k) (b := 20) (by omega) (by omega))) (fun _ => ?_)
      refine ex_iload dX1_openLane_25 rfl rfl ?_
      refine ex_if_lt (q := 58) (q2 := 30) dX1_openLane_27 rfl rfl (fun hh => absurd hh (nI_pos (by omega))) (fun _ => ?_)
      refine ex_aload_n dX1_openLane_30 rfl rfl ?_
      refine ex_getR (b := 26) dX1_openLane_31 rfl qp_9_21 rfl rfl ?_
      refine ex_iload dX1_openLane_34 rfl rfl ?_
      refine ex_aload_n dX1_openLane_36 rfl rfl ?_
      refine ex_iload dX1_openLane_37 rfl rfl ?_
      refine ex_callV (a := 22) (rest := [.int (nI m), .ref 26]) dX1_openLane_39 rfl qp_9_25 rfl rfl rfl rfl rfl (Nat.le_of_ble_eq_true rfl) (c_wouldTake_0 hT h (by omega)) (Nat.le_of_ble_eq_true rfl) ?_
      show Ex qm_lay _ mX1_openLane 42 [some (.ref 22), some (.ref 4), some (.int (nI a)), some (.int (nI b)), some (.int (nI m)), some (.int (nI k))] [.int (nI (tn_wd T m)), .int (nI m), .ref 26] σ _ _
      refine ex_iastore (k := m) (σ' := qm_wF σ 21 m (nI (tn_wd T m))) dX1_openLane_42 rfl rfl (rfl) (by omega) (by decide) rfl ?_
      refine ex_iinc (y := nI (k + 1)) (ls' := [some (.ref 22), some (.ref 4), some (.int (nI a)), some (.int (nI b)), some (.int (nI m)), some (.int (nI (k + 1)))]) dX1_openLane_43 rfl rfl rfl (nI_add k 1) rfl ?_
      refine ex_aload_n dX1_openLane_46 rfl rfl ?_
      refine ex_aload_n dX1_openLane_47 rfl rfl ?_
      refine ex_iload dX1_openLane_48 rfl rfl ?_
      refine ex_callS (rest := []) dX1_openLane_50 rfl qp_9_29 rfl rfl rfl (Nat.le_of_ble_eq_true rfl) (hO) (Nat.le_of_ble_eq_true rfl) ?_
      show Ex qm_lay _ mX1_openLane 53 [some (.ref 22), some (.ref 4), some (.int (nI a)), some (.int (nI b)), some (.int (nI m)), some (.int (nI (k + 1)))] [.int (oi (lm_nx (tn_rc T m (tn_wd T m)) X m))] σ1 _ _
      refine ex_istore (ls' := [some (.ref 22), some (.ref 4), some (.int (nI a)), some (.int (nI b)), some (.int (oi (lm_nx (tn_rc T m (tn_wd T m)) X m))), some (.int (nI (k + 1)))]) dX1_openLane_53 rfl (Nat.le_of_ble_eq_true rfl) rfl rfl ?_
      refine ex_goto (q := 18) dX1_openLane_55 rfl ?_
      exact hE

set_option maxHeartbeats 2000000 in
theorem c_openLane_0 {σ : qm_St} {T : tn_T} {X : gx_T} (hX : gx_ok X) (hT : tn_ok T) (hw : tn_w T < gx_n X) (h : TR σ 9 18 T) (hXC : XC σ X) {a b : Nat} (ha : a < tn_L T) (hb : b < tn_L T) (hab : a ≠ b) : ∃ σ', Ok qm_lay 16 mX1_openLane [.ref 22, .ref 4, .int (nI a), .int (nI b)] σ (some (.int (nI (lm_open T X a b).1))) σ' ∧ TR σ' 9 18 (lm_open T X a b).2 ∧ XC σ' X ∧ sl σ σ' 9 13 18 23 4 6 := by
  have hL := hT.1
  have hba := tn_b_lt hT ha
  have hbb := tn_b_lt hT hb
  have hTj := tn_jn_ok hT ha hb hab
  obtain ⟨σ0, hO0, h2, hg⟩ := c_join_0 hT h ha hb hab
  have hXC2 := hXC.sm hX hg (by omega) (by omega)
  obtain ⟨σ1, hO, hs1⟩ := c_moverOf_0 (T := tn_jn T a b) hX hTj hw h2 hXC2 ha hb
  obtain ⟨σ', hE, hR, hX3, hs3⟩ := l_openLane_0 hX a b 20 0 (tn_jn T a b) (lm_of (tn_jn T a b) X a b) σ1 (by omega) hTj hw (fun y hy => by
    obtain ⟨q1, q2⟩ := lm_of_m hy
    exact ⟨by show y < tn_L T; rcases q1 with q | q <;> omega, q2⟩) (h2.sm hs1 (by omega) (by omega)) (hXC2.sm hX hs1 (by omega) (by omega))
  rw [Nat.zero_add] at hE
  refine ⟨σ', ?_, hR, hX3, ((hg.l1 4 6).tr (hs1.l2 _ _ _ _)).tr hs3⟩
  refine Ok.of (ls := [some (.ref 22), some (.ref 4), some (.int (nI a)), some (.int (nI b)), none, none]) (Nat.le_of_ble_eq_true rfl) rfl ?_
  refine ex_aload_n dX1_openLane_0 rfl rfl ?_
  refine ex_iload_n dX1_openLane_1 rfl rfl ?_
  refine ex_iload_n dX1_openLane_2 rfl rfl ?_
  refine ex_callV (a := 22) (rest := []) dX1_openLane_3 rfl qp_9_9 rfl rfl rfl rfl rfl (Nat.le_of_ble_eq_true rfl) (hO0) (Nat.le_of_ble_eq_true rfl) ?_
  show Ex qm_lay _ mX1_openLane 6 [some (.ref 22), some (.ref 4), some (.int (nI a)), some (.int (nI b)), none, none] [] σ0 _ _
  refine ex_aload_n dX1_openLane_6 rfl rfl ?_
  refine ex_aload_n dX1_openLane_7 rfl rfl ?_
  refine ex_iload_n dX1_openLane_8 rfl rfl ?_
  refine ex_iload_n dX1_openLane_9 rfl rfl ?_
  refine ex_callS (rest := []) dX1_openLane_10 rfl qp_9_15 rfl rfl rfl (Nat.le_of_ble_eq_true rfl) (hO) (Nat.le_of_ble_eq_true rfl) ?_
  show Ex qm_lay _ mX1_openLane 13 [some (.ref 22), some (.ref 4), some (.int (nI a)), some (.int (nI b)), none, none] [.int (oi (lm_of (tn_jn T a b) X a b))] σ1 _ _
  refine ex_istore (ls' := [some (.ref 22), some (.ref 4), some (.int (nI a)), some (.int (nI b)), some (.int (oi (lm_of (tn_jn T a b) X a b))), none]) dX1_openLane_13 rfl (Nat.le_of_ble_eq_true rfl) rfl rfl ?_
  refine ex_iconst (x := 0) dX1_openLane_15 rfl rfl ?_
  refine ex_istore (ls' := [some (.ref 22), some (.ref 4), some (.int (nI a)), some (.int (nI b)), some (.int (oi (lm_of (tn_jn T a b) X a b))), some (.int 0)]) dX1_openLane_16 rfl (Nat.le_of_ble_eq_true rfl) rfl rfl ?_
  exact hE

set_option maxHeartbeats 2000000 in
theorem l_openLane_1 {X : gx_T} (hX : gx_ok X) (a b : Nat) : ∀ (f k : Nat) (T : tn_T) (m : Option Nat) (σ : qm_St), k + f = 20 → tn_ok T → tn_w T < gx_n X → (∀ y, m = some y → y < tn_L T ∧ (tn_u T).testBit y = true) → TR σ 13 23 T → XC σ X → ∃ σ', Ex qm_lay 16 mX1_openLane 18 [some (.ref 28), some (.ref 4), some (.int (nI a)), some (.int (nI b)), some (.int (oi m)), some (.int (nI k))] [] σ (some (.int (nI (k + (lm_run X f T m).1)))) σ' ∧ TR σ' 13 23 (lm_run X f T m).2 ∧ XC σ' X ∧ sl σ σ' 13 17 23 28 4 6 := by
  intro f
  induction f with
  | zero =>
    intro k T m σ hk hT hw hm h hXC
    have hL := hT.1
    have e1 : lm_run X 0 T m = (0, T) := by cases m <;> rfl
    rw [e1]
    refine ⟨σ, ?_, h, hXC, sl.rf _ _ _ _ _ _ _⟩
    refine ex_iload dX1_openLane_18 rfl rfl ?_
    refine ex_bipush (x := 20) dX1_openLane_20 rfl rfl ?_
    refine ex_icmp_ge (q := 58) (q2 := 25) dX1_openLane_22 rfl rfl (fun _ => ?_) (fun hh => absurd (nI_le (a := 20) (b := k) (by omega) (by omega)) hh)
    refine ex_iload dX1_openLane_58 rfl rfl ?_
    exact ex_iret dX1_openLane_60 rfl rfl rfl
  | succ f ih =>
    intro k T m σ hk hT hw hm h hXC
    have hL := hT.1
    cases m with
    | none =>
      refine ⟨σ, ?_, h, hXC, sl.rf _ _ _ _ _ _ _⟩
      refine ex_iload dX1_openLane_18 rfl rfl ?_
      refine ex_bipush (x := 20) dX1_openLane_20 rfl rfl ?_
      refine ex_icmp_ge (q := 58) (q2 := 25) dX1_openLane_22 rfl rfl (fun hh => absurd hh (nI_ge (a := k) (b := 20) (by omega) (by omega))) (fun _ => ?_)
      refine ex_iload dX1_openLane_25 rfl rfl ?_
      refine ex_if_lt (q := 58) (q2 := 30) dX1_openLane_27 rfl rfl (fun _ => ?_) (fun hh => absurd (by decide) hh)
      refine ex_iload dX1_openLane_58 rfl rfl ?_
      exact ex_iret dX1_openLane_60 rfl rfl rfl
    | some m =>
      obtain ⟨hm1, hm2⟩ := hm m rfl
      have hT2 : tn_ok (tn_rc T m (tn_wd T m)) := tn_rc_ok hT (tn_wd_le hT m)
      have hok : ∀ y, lm_nx (tn_rc T m (tn_wd T m)) X m = some y → y < tn_L (tn_rc T m (tn_wd T m)) ∧ (tn_u (tn_rc T m (tn_wd T m))).testBit y = true := fun y hy => lm_go_m (T := tn_rc T m (tn_wd T m)) hm1 _ 0 (by omega) hy
      have h2 := TR.rc h m (tn_wd T m)
      have hg : sm σ (qm_wF σ 26 m (nI (tn_wd T m))) 13 17 23 28 := (sm.rf σ 13 17 23 28).wF _ (by omega)
      have hXC2 := hXC.sm hX hg (by omega) (by omega)
      obtain ⟨σ1, hO, hs1⟩ := c_moverBeside_1 (T := tn_rc T m (tn_wd T m)) hX hT2 hw h2 hXC2 hm1
      obtain ⟨σ', hE, hR, hX3, hs3⟩ := ih (k + 1) _ _ σ1 (by omega) hT2 hw hok (h2.sm hs1 (by omega) (by omega)) (hXC2.sm hX hs1 (by omega) (by omega))
      rw [lm_run]
      refine ⟨σ', ?_, hR, hX3, ((hg.l1 4 6).tr (hs1.l2 _ _ _ _)).tr hs3⟩
      rw [show k + ((lm_run X f (tn_rc T m (tn_wd T m)) (lm_nx (tn_rc T m (tn_wd T m)) X m)).1 + 1) = k + 1 + (lm_run X f (tn_rc T m (tn_wd T m)) (lm_nx (tn_rc T m (tn_wd T m)) X m)).1 by omega]
      refine ex_iload dX1_openLane_18 rfl rfl ?_
      refine ex_bipush (x := 20) dX1_openLane_20 rfl rfl ?_
      refine ex_icmp_ge (q := 58) (q2 := 25) dX1_openLane_22 rfl rfl (fun hh => absurd hh (nI_ge (a := k) (b := 20) (by omega) (by omega))) (fun _ => ?_)
      refine ex_iload dX1_openLane_25 rfl rfl ?_
      refine ex_if_lt (q := 58) (q2 := 30) dX1_openLane_27 rfl rfl (fun hh => absurd hh (nI_pos (by omega))) (fun _ => ?_)
      refine ex_aload_n dX1_openLane_30 rfl rfl ?_
      refine ex_getR (b := 32) dX1_openLane_31 rfl qp_9_21 rfl rfl ?_
      refine ex_iload dX1_openLane_34 rfl rfl ?_
      refine ex_aload_n dX1_openLane_36 rfl rfl ?_
      refine ex_iload dX1_openLane_37 rfl rfl ?_
      refine ex_callV (a := 28) (rest := [.int (nI m), .ref 32]) dX1_openLane_39 rfl qp_9_25 rfl rfl rfl rfl rfl (Nat.le_of_ble_eq_true rfl) (c_wouldTake_1 hT h (by omega)) (Nat.le_of_ble_eq_true rfl) ?_
      show Ex qm_lay _ mX1_openLane 42 [some (.ref 28), some (.ref 4), some (.int (nI a)), some (.int (nI b)), some (.int (nI m)), some (.int (nI k))] [.int (nI (tn_wd T m)), .int (nI m), .ref 32] σ _ _
      refine ex_iastore (k := m) (σ' := qm_wF σ 26 m (nI (tn_wd T m))) dX1_openLane_42 rfl rfl (rfl) (by omega) (by decide) rfl ?_
      refine ex_iinc (y := nI (k + 1)) (ls' := [some (.ref 28), some (.ref 4), some (.int (nI a)), some (.int (nI b)), some (.int (nI m)), some (.int (nI (k + 1)))]) dX1_openLane_43 rfl rfl rfl (nI_add k 1) rfl ?_
      refine ex_aload_n dX1_openLane_46 rfl rfl ?_
      refine ex_aload_n dX1_openLane_47 rfl rfl ?_
      refine ex_iload dX1_openLane_48 rfl rfl ?_
      refine ex_callS (rest := []) dX1_openLane_50 rfl qp_9_29 rfl rfl rfl (Nat.le_of_ble_eq_true rfl) (hO) (Nat.le_of_ble_eq_true rfl) ?_
      show Ex qm_lay _ mX1_openLane 53 [some (.ref 28), some (.ref 4), some (.int (nI a)), some (.int (nI b)), some (.int (nI m)), some (.int (nI (k + 1)))] [.int (oi (lm_nx (tn_rc T m (tn_wd T m)) X m))] σ1 _ _
      refine ex_istore (ls' := [some (.ref 28), some (.ref 4), some (.int (nI a)), some (.int (nI b)), some (.int (oi (lm_nx (tn_rc T m (tn_wd T m)) X m))), some (.int (nI (k + 1)))]) dX1_openLane_53 rfl (Nat.le_of_ble_eq_true rfl) rfl rfl ?_
      refine ex_goto (q := 18) dX1_openLane_55 rfl ?_
      exact hE

set_option maxHeartbeats 2000000 in
theorem c_openLane_1 {σ : qm_St} {T : tn_T} {X : gx_T} (hX : gx_ok X) (hT : tn_ok T) (hw : tn_w T < gx_n X) (h : TR σ 13 23 T) (hXC : XC σ X) {a b : Nat} (ha : a < tn_L T) (hb : b < tn_L T) (hab : a ≠ b) : ∃ σ', Ok qm_lay 16 mX1_openLane [.ref 28, .ref 4, .int (nI a), .int (nI b)] σ (some (.int (nI (lm_open T X a b).1))) σ' ∧ TR σ' 13 23 (lm_open T X a b).2 ∧ XC σ' X ∧ sl σ σ' 13 17 23 28 4 6 := by
  have hL := hT.1
  have hba := tn_b_lt hT ha
  have hbb := tn_b_lt hT hb
  have hTj := tn_jn_ok hT ha hb hab
  obtain ⟨σ0, hO0, h2, hg⟩ := c_join_1 hT h ha hb hab
  have hXC2 := hXC.sm hX hg (by omega) (by omega)
  obtain ⟨σ1, hO, hs1⟩ := c_moverOf_1 (T := tn_jn T a b) hX hTj hw h2 hXC2 ha hb
  obtain ⟨σ', hE, hR, hX3, hs3⟩ := l_openLane_1 hX a b 20 0 (tn_jn T a b) (lm_of (tn_jn T a b) X a b) σ1 (by omega) hTj hw (fun y hy => by
    obtain ⟨q1, q2⟩ := lm_of_m hy
    exact ⟨by show y < tn_L T; rcases q1 with q | q <;> omega, q2⟩) (h2.sm hs1 (by omega) (by omega)) (hXC2.sm hX hs1 (by omega) (by omega))
  rw [Nat.zero_add] at hE
  refine ⟨σ', ?_, hR, hX3, ((hg.l1 4 6).tr (hs1.l2 _ _ _ _)).tr hs3⟩
  refine Ok.of (ls := [some (.ref 28), some (.ref 4), some (.int (nI a)), some (.int (nI b)), none, none]) (Nat.le_of_ble_eq_true rfl) rfl ?_
  refine ex_aload_n dX1_openLane_0 rfl rfl ?_
  refine ex_iload_n dX1_openLane_1 rfl rfl ?_
  refine ex_iload_n dX1_openLane_2 rfl rfl ?_
  refine ex_callV (a := 28) (rest := []) dX1_openLane_3 rfl qp_9_9 rfl rfl rfl rfl rfl (Nat.le_of_ble_eq_true rfl) (hO0) (Nat.le_of_ble_eq_true rfl) ?_
  show Ex qm_lay _ mX1_openLane 6 [some (.ref 28), some (.ref 4), some (.int (nI a)), some (.int (nI b)), none, none] [] σ0 _ _
  refine ex_aload_n dX1_openLane_6 rfl rfl ?_
  refine ex_aload_n dX1_openLane_7 rfl rfl ?_
  refine ex_iload_n dX1_openLane_8 rfl rfl ?_
  refine ex_iload_n dX1_openLane_9 rfl rfl ?_
  refine ex_callS (rest := []) dX1_openLane_10 rfl qp_9_15 rfl rfl rfl (Nat.le_of_ble_eq_true rfl) (hO) (Nat.le_of_ble_eq_true rfl) ?_
  show Ex qm_lay _ mX1_openLane 13 [some (.ref 28), some (.ref 4), some (.int (nI a)), some (.int (nI b)), none, none] [.int (oi (lm_of (tn_jn T a b) X a b))] σ1 _ _
  refine ex_istore (ls' := [some (.ref 28), some (.ref 4), some (.int (nI a)), some (.int (nI b)), some (.int (oi (lm_of (tn_jn T a b) X a b))), none]) dX1_openLane_13 rfl (Nat.le_of_ble_eq_true rfl) rfl rfl ?_
  refine ex_iconst (x := 0) dX1_openLane_15 rfl rfl ?_
  refine ex_istore (ls' := [some (.ref 28), some (.ref 4), some (.int (nI a)), some (.int (nI b)), some (.int (oi (lm_of (tn_jn T a b) X a b))), some (.int 0)]) dX1_openLane_16 rfl (Nat.le_of_ble_eq_true rfl) rfl rfl ?_
  exact hE

set_option maxHeartbeats 2000000 in
theorem l_lanes {X : gx_T} (hX : gx_ok X) (a b : Nat) : ∀ (f k : Nat) (T : tn_T) (m : Option Nat) (σ : qm_St), k + f = 20 → tn_ok T → tn_w T < gx_n X → (∀ y, m = some y → y < tn_L T ∧ (tn_u T).testBit y = true) → (f = 0 → m = none) → MR σ T → XM σ X → ∃ σ', Ex qm_lay 16 mX9_lanes 34 [some (.ref 55), some (.int (nI a)), some (.int (nI b)), some (.int (nI k)), some (.int (oi m))] [] σ (some (.int (nI (k + (lm_run X f T m).1)))) σ' ∧ MR σ' (lm_run X f T m).2 ∧ XM σ' X ∧ sl σ σ' 28 28 44 47 57 59 := by
  intro f
  induction f with
  | zero =>
    intro k T m σ hk hT hw hm hf h hXC
    have hL := hT.1
    have e0 := hf rfl
    subst e0
    refine ⟨σ, ?_, h, hXC, sl.rf _ _ _ _ _ _ _⟩
    refine ex_iload dX9_lanes_34 rfl rfl ?_
    refine ex_iconst (x := (-1)) dX9_lanes_36 rfl rfl ?_
    refine ex_icmp_eq (q := 77) (q2 := 40) dX9_lanes_37 rfl rfl (fun _ => ?_) (fun hh => absurd (by decide) hh)
    refine ex_iload_n dX9_lanes_77 rfl rfl ?_
    exact ex_iret dX9_lanes_78 rfl rfl rfl
  | succ f ih =>
    intro k T m σ hk hT hw hm hf h hXC
    have hL := hT.1
    cases m with
    | none =>
      refine ⟨σ, ?_, h, hXC, sl.rf _ _ _ _ _ _ _⟩
      refine ex_iload dX9_lanes_34 rfl rfl ?_
      refine ex_iconst (x := (-1)) dX9_lanes_36 rfl rfl ?_
      refine ex_icmp_eq (q := 77) (q2 := 40) dX9_lanes_37 rfl rfl (fun _ => ?_) (fun hh => absurd (by decide) hh)
      refine ex_iload_n dX9_lanes_77 rfl rfl ?_
      exact ex_iret dX9_lanes_78 rfl rfl rfl
    | some m =>
      obtain ⟨hm1, hm2⟩ := hm m rfl
      have hT2 : tn_ok (tn_rc T m (tn_wd T m)) := tn_rc_ok hT (tn_wd_le hT m)
      have hok : ∀ y, lm_nx (tn_rc T m (tn_wd T m)) X m = some y → y < tn_L (tn_rc T m (tn_wd T m)) ∧ (tn_u (tn_rc T m (tn_wd T m))).testBit y = true := fun y hy => lm_go_m (T := tn_rc T m (tn_wd T m)) hm1 _ 0 (by omega) hy
      have h2 := MR.rc h (tn_wd T m) hm2
      have hg : sm σ (qm_wF σ 45 m (nI (tn_wd T m))) 28 28 44 47 := (sm.rf σ 28 28 44 47).wF _ (by omega)
      have hXC2 := hXC.sm hg (by omega) (by omega)
      by_cases hf0 : f = 0
      · subst hf0
        obtain ⟨σ', hE, hR, hX3, hs3⟩ := ih (k + 1) _ none (qm_wF σ 45 m (nI (tn_wd T m))) (by omega) hT2 hw (fun y hy => by cases hy) (fun _ => rfl) h2 hXC2
        have e1 : lm_run X (0 + 1) T (some m) = (1, tn_rc T m (tn_wd T m)) := by rw [lm_run]; rfl
        rw [e1]
        refine ⟨σ', ?_, hR, hX3, (hg.l1 57 59).tr hs3⟩
        have hE2 : Ex qm_lay 16 mX9_lanes 34 [some (.ref 55), some (.int (nI a)), some (.int (nI b)), some (.int (nI (k + 1))), some (.int (-1))] [] (qm_wF σ 45 m (nI (tn_wd T m))) (some (.int (nI (k + 1)))) σ' := hE
        refine ex_iload dX9_lanes_34 rfl rfl ?_
        refine ex_iconst (x := (-1)) dX9_lanes_36 rfl rfl ?_
        refine ex_icmp_eq (q := 77) (q2 := 40) dX9_lanes_37 rfl rfl (fun hh => absurd hh (nI_ne_m1 (by omega))) (fun _ => ?_)
        refine ex_aload_n dX9_lanes_40 rfl rfl ?_
        refine ex_getR (b := 59) dX9_lanes_41 rfl qp_8_19 rfl rfl ?_
        refine ex_iload dX9_lanes_44 rfl rfl ?_
        refine ex_aload_n dX9_lanes_46 rfl rfl ?_
        refine ex_iload dX9_lanes_47 rfl rfl ?_
        refine ex_callV (a := 55) (rest := [.int (nI m), .ref 59]) dX9_lanes_49 rfl qp_8_202 rfl rfl rfl rfl rfl (Nat.le_of_ble_eq_true rfl) (k_wouldTake hT h (by omega)) (Nat.le_of_ble_eq_true rfl) ?_
        show Ex qm_lay _ mX9_lanes 52 [some (.ref 55), some (.int (nI a)), some (.int (nI b)), some (.int (nI k)), some (.int (nI m))] [.int (nI (tn_wd T m)), .int (nI m), .ref 59] σ _ _
        refine ex_iastore (k := m) (σ' := qm_wF σ 45 m (nI (tn_wd T m))) dX9_lanes_52 rfl rfl (rfl) (by omega) (by decide) rfl ?_
        refine ex_iinc (y := nI (k + 1)) (ls' := [some (.ref 55), some (.int (nI a)), some (.int (nI b)), some (.int (nI (k + 1))), some (.int (nI m))]) dX9_lanes_53 rfl rfl rfl (nI_add k 1) rfl ?_
        refine ex_iload_n dX9_lanes_56 rfl rfl ?_
        refine ex_bipush (x := 20) dX9_lanes_57 rfl rfl ?_
        refine ex_icmp_ge (q := 71) (q2 := 62) dX9_lanes_59 rfl rfl (fun _ => ?_) (fun hh => absurd (nI_le (a := 20) (b := (k + 1)) (by omega) (by omega)) hh)
        refine ex_iconst (x := (-1)) dX9_lanes_71 rfl rfl ?_
        refine ex_istore (ls' := [some (.ref 55), some (.int (nI a)), some (.int (nI b)), some (.int (nI (k + 1))), some (.int (-1))]) dX9_lanes_72 rfl (Nat.le_of_ble_eq_true rfl) rfl rfl ?_
        refine ex_goto (q := 34) dX9_lanes_74 rfl ?_
        exact hE2
      · obtain ⟨σ1, hO, hs1⟩ := k_nextMoves (T := tn_rc T m (tn_wd T m)) hX hT2 hw h2 hXC2 hm1
        obtain ⟨σ', hE, hR, hX3, hs3⟩ := ih (k + 1) _ _ σ1 (by omega) hT2 hw hok (fun z => absurd z hf0) (h2.sm hs1 (by omega) (by omega)) (hXC2.sm hs1 (by omega) (by omega))
        rw [lm_run]
        refine ⟨σ', ?_, hR, hX3, ((hg.l1 57 59).tr (hs1.l2 _ _ _ _)).tr hs3⟩
        rw [show k + ((lm_run X f (tn_rc T m (tn_wd T m)) (lm_nx (tn_rc T m (tn_wd T m)) X m)).1 + 1) = k + 1 + (lm_run X f (tn_rc T m (tn_wd T m)) (lm_nx (tn_rc T m (tn_wd T m)) X m)).1 by omega]
        refine ex_iload dX9_lanes_34 rfl rfl ?_
        refine ex_iconst (x := (-1)) dX9_lanes_36 rfl rfl ?_
        refine ex_icmp_eq (q := 77) (q2 := 40) dX9_lanes_37 rfl rfl (fun hh => absurd hh (nI_ne_m1 (by omega))) (fun _ => ?_)
        refine ex_aload_n dX9_lanes_40 rfl rfl ?_
        refine ex_getR (b := 59) dX9_lanes_41 rfl qp_8_19 rfl rfl ?_
        refine ex_iload dX9_lanes_44 rfl rfl ?_
        refine ex_aload_n dX9_lanes_46 rfl rfl ?_
        refine ex_iload dX9_lanes_47 rfl rfl ?_
        refine ex_callV (a := 55) (rest := [.int (nI m), .ref 59]) dX9_lanes_49 rfl qp_8_202 rfl rfl rfl rfl rfl (Nat.le_of_ble_eq_true rfl) (k_wouldTake hT h (by omega)) (Nat.le_of_ble_eq_true rfl) ?_
        show Ex qm_lay _ mX9_lanes 52 [some (.ref 55), some (.int (nI a)), some (.int (nI b)), some (.int (nI k)), some (.int (nI m))] [.int (nI (tn_wd T m)), .int (nI m), .ref 59] σ _ _
        refine ex_iastore (k := m) (σ' := qm_wF σ 45 m (nI (tn_wd T m))) dX9_lanes_52 rfl rfl (rfl) (by omega) (by decide) rfl ?_
        refine ex_iinc (y := nI (k + 1)) (ls' := [some (.ref 55), some (.int (nI a)), some (.int (nI b)), some (.int (nI (k + 1))), some (.int (nI m))]) dX9_lanes_53 rfl rfl rfl (nI_add k 1) rfl ?_
        refine ex_iload_n dX9_lanes_56 rfl rfl ?_
        refine ex_bipush (x := 20) dX9_lanes_57 rfl rfl ?_
        refine ex_icmp_ge (q := 71) (q2 := 62) dX9_lanes_59 rfl rfl (fun hh => absurd hh (nI_ge (a := (k + 1)) (b := 20) (by omega) (by omega))) (fun _ => ?_)
        refine ex_aload_n dX9_lanes_62 rfl rfl ?_
        refine ex_iload dX9_lanes_63 rfl rfl ?_
        refine ex_callV (a := 55) (rest := []) dX9_lanes_65 rfl qp_8_217 rfl rfl rfl rfl rfl (Nat.le_of_ble_eq_true rfl) (hO) (Nat.le_of_ble_eq_true rfl) ?_
        show Ex qm_lay _ mX9_lanes 68 [some (.ref 55), some (.int (nI a)), some (.int (nI b)), some (.int (nI (k + 1))), some (.int (nI m))] [.int (oi (lm_nx (tn_rc T m (tn_wd T m)) X m))] σ1 _ _
        refine ex_goto (q := 72) dX9_lanes_68 rfl ?_
        refine ex_istore (ls' := [some (.ref 55), some (.int (nI a)), some (.int (nI b)), some (.int (nI (k + 1))), some (.int (oi (lm_nx (tn_rc T m (tn_wd T m)) X m)))]) dX9_lanes_72 rfl (Nat.le_of_ble_eq_true rfl) rfl rfl ?_
        refine ex_goto (q := 34) dX9_lanes_74 rfl ?_
        exact hE

set_option maxHeartbeats 2000000 in
theorem k_lanes {σ : qm_St} {T : tn_T} {X : gx_T} (hX : gx_ok X) (hT : tn_ok T) (hw : tn_w T < gx_n X) (h : MR σ T) (hXC : XM σ X) {a b : Nat} (ha : a < tn_L T) (hb : b < tn_L T) (hab : a ≠ b) : ∃ σ', Ok qm_lay 16 mX9_lanes [.ref 55, .int (nI a), .int (nI b)] σ (some (.int (nI (lm_open T X a b).1))) σ' ∧ MR σ' (lm_open T X a b).2 ∧ XM σ' X ∧ sl σ σ' 28 28 44 47 57 59 := by
  have hL := hT.1
  have hba := tn_b_lt hT ha
  have hbb := tn_b_lt hT hb
  have hTj := tn_jn_ok hT ha hb hab
  have hg : sm σ (qm_wF (qm_wF σ 44 a (nI (tn_b T a ||| 2 ^ b))) 44 b (nI (tn_b T b ||| 2 ^ a))) 28 28 44 47 := ((sm.rf σ 28 28 44 47).wF _ (by omega)).wF _ (by omega)
  have h2 := MR.jn h hab
  have hXC2 := hXC.sm hg (by omega) (by omega)
  obtain ⟨σ1, hO, hs1⟩ := k_movesOf (T := tn_jn T a b) hX hTj hw h2 hXC2 ha hb
  obtain ⟨σ', hE, hR, hX3, hs3⟩ := l_lanes hX a b 20 0 (tn_jn T a b) (lm_of (tn_jn T a b) X a b) σ1 (by omega) hTj hw (fun y hy => by
    obtain ⟨q1, q2⟩ := lm_of_m hy
    exact ⟨by show y < tn_L T; rcases q1 with q | q <;> omega, q2⟩) (fun z => absurd z (by decide)) (h2.sm hs1 (by omega) (by omega)) (hXC2.sm hs1 (by omega) (by omega))
  rw [Nat.zero_add] at hE
  refine ⟨σ', ?_, hR, hX3, ((hg.l1 57 59).tr (hs1.l2 _ _ _ _)).tr hs3⟩
  refine Ok.of (ls := [some (.ref 55), some (.int (nI a)), some (.int (nI b)), none, none]) (Nat.le_of_ble_eq_true rfl) rfl ?_
  refine ex_aload_n dX9_lanes_0 rfl rfl ?_
  refine ex_getR (b := 58) dX9_lanes_1 rfl qp_8_16 rfl rfl ?_
  refine ex_iload_n dX9_lanes_4 rfl rfl ?_
  refine ex_dup2 dX9_lanes_5 rfl rfl rfl ?_
  refine ex_iaload (k := a) (x := nI (tn_b T a)) dX9_lanes_6 rfl rfl (rfl) (by omega) (by decide) (MR.bb h (by omega)) ?_
  refine ex_iconst (x := 1) dX9_lanes_7 rfl rfl ?_
  refine ex_iload_n dX9_lanes_8 rfl rfl ?_
  refine ex_ishl (z := nI (2 ^ b)) dX9_lanes_9 rfl (nI_1shl (by omega)) ?_
  refine ex_ior (z := nI ((tn_b T a) ||| (2 ^ b))) dX9_lanes_10 rfl (nI_or _ _) ?_
  refine ex_iastore (k := a) (σ' := qm_wF σ 44 a (nI ((tn_b T a) ||| (2 ^ b)))) dX9_lanes_11 rfl rfl (rfl) (by omega) (by decide) rfl ?_
  refine ex_aload_n dX9_lanes_12 rfl rfl ?_
  refine ex_getR (b := 58) dX9_lanes_13 rfl qp_8_16 rfl rfl ?_
  refine ex_iload_n dX9_lanes_16 rfl rfl ?_
  refine ex_dup2 dX9_lanes_17 rfl rfl rfl ?_
  refine ex_iaload (k := b) (x := nI (tn_b T b)) dX9_lanes_18 rfl rfl (rfl) (by omega) (by decide) (by rw [rF_ne (Or.inr (Ne.symm hab))]; exact MR.bb h hb) ?_
  refine ex_iconst (x := 1) dX9_lanes_19 rfl rfl ?_
  refine ex_iload_n dX9_lanes_20 rfl rfl ?_
  refine ex_ishl (z := nI (2 ^ a)) dX9_lanes_21 rfl (nI_1shl (by omega)) ?_
  refine ex_ior (z := nI ((tn_b T b) ||| (2 ^ a))) dX9_lanes_22 rfl (nI_or _ _) ?_
  refine ex_iastore (k := b) (σ' := qm_wF (qm_wF σ 44 a (nI ((tn_b T a) ||| (2 ^ b)))) 44 b (nI ((tn_b T b) ||| (2 ^ a)))) dX9_lanes_23 rfl rfl (rfl) (by omega) (by decide) rfl ?_
  refine ex_iconst (x := 0) dX9_lanes_24 rfl rfl ?_
  refine ex_istore_n (ls' := [some (.ref 55), some (.int (nI a)), some (.int (nI b)), some (.int 0), none]) dX9_lanes_25 rfl (Nat.le_of_ble_eq_true rfl) rfl rfl ?_
  refine ex_aload_n dX9_lanes_26 rfl rfl ?_
  refine ex_iload_n dX9_lanes_27 rfl rfl ?_
  refine ex_iload_n dX9_lanes_28 rfl rfl ?_
  refine ex_callV (a := 55) (rest := []) dX9_lanes_29 rfl qp_8_214 rfl rfl rfl rfl rfl (Nat.le_of_ble_eq_true rfl) (hO) (Nat.le_of_ble_eq_true rfl) ?_
  show Ex qm_lay _ mX9_lanes 32 [some (.ref 55), some (.int (nI a)), some (.int (nI b)), some (.int 0), none] [.int (oi (lm_of (tn_jn T a b) X a b))] σ1 _ _
  refine ex_istore (ls' := [some (.ref 55), some (.int (nI a)), some (.int (nI b)), some (.int 0), some (.int (oi (lm_of (tn_jn T a b) X a b)))]) dX9_lanes_32 rfl (Nat.le_of_ble_eq_true rfl) rfl rfl ?_
  exact hE

