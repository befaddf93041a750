/-! ===== when to build ===== -/
theorem RRsl2 {σ σ' : qm_St} {os : List Nat} (h : RR σ os) (g : sl σ σ' 43 44 44 47 57 60) : RR σ' os := ⟨by rw [g.1 _ (by omega)]; exact h.1, h.2.1, fun i hi' => by rw [g.2 _ (by omega) (by omega)]; exact h.2.2 i hi'⟩
theorem XMsl {σ σ' : qm_St} {X : gx_T} (h : XM σ X) {a b : Nat} (g : sl σ σ' 43 44 44 47 a b) (ha : 50 ≤ a) : XM σ' X := by
  refine ⟨by rw [g.1 _ (by omega)]; exact h.1, fun t ht => ⟨fun p hp => ?_, fun k hk => ?_⟩⟩
  · rw [g.2 _ (by omega) (by omega)]; exact (h.2 t ht).1 p hp
  · rw [g.2 _ (by omega) (by omega)]; exact (h.2 t ht).2 k hk
set_option maxHeartbeats 2000000 in
theorem k_worthBehind {σ : qm_St} {T : tn_T} {X : gx_T} (hX : gx_ok X) (hT : tn_ok T) (hw : tn_w T < gx_n X) (h : MR σ T) (hXM : XM σ X) {os : List Nat} (hor : RR σ os) (hos : ∀ l ∈ os, l < tn_L T) {l n : Nat} (hl : l < tn_L T) (hn : n ≤ os.length) : ∃ σ', Ok qm_lay 12 mX9_worthBehind [.ref 55, .int (nI l), .int (nI n)] σ (some (.int (wb T X l os n))) σ' ∧ MR σ' T ∧ sl σ σ' 43 44 44 47 57 60 := by
  obtain ⟨σ1, hO1, hK1, hs1⟩ := k_keeps hT h
  obtain ⟨σ2, hO2, hR2, hs2⟩ := k_buildsRow hT (h.sm hs1 (by omega) (by omega)) (hor.sm hs1 (by omega) (by omega)) hos (n := n) hn
  have hok2 := tn_bl_ok (os.take (n)) hT (os_take_ok hos)
  obtain ⟨q1, q2, q3, q4, q5⟩ := tn_bl_same (os.take (n)) T
  obtain ⟨σ3, hO3, hR3, hs3⟩ := k_laysBack hT (hK1.sm hs2 (by omega) (by omega)) (MS.ext hR2.1 q1.symm q2.symm q5.symm q4.symm)
  have hsl := back_sl2 h hR3 hs1 hs2 hs3
  have hl2 : l < tn_L (tn_bl T (os.take n)) := by rw [q1]; exact hl
  have hXM3 := XMsl hXM hsl (by omega)
  obtain ⟨σ4, hOa, hs4⟩ := k_asksOf hT hX hw hR3 hXM3 (part := 0) (by decide) hl (nI (tn_wd (tn_bl T (os.take n)) l)) (nI n)
  obtain ⟨σ5, hOb, hs5⟩ := k_asksOf hT hX hw (hR3.sm hs4 (by omega) (by omega)) (hXM3.sm hs4 (by omega) (by omega)) (part := 1) (by decide) hl (nI (tn_wd (tn_bl T (os.take n)) l)) (nI n)
  refine ⟨σ5, ?_, (hR3.sm hs4 (by omega) (by omega)).sm hs5 (by omega) (by omega), ⟨fun s hs => by rw [hs5.1 s (by omega), hs4.1 s (by omega), hsl.1 s hs], fun r hr hr2 k => by rw [hs5.2 r (by omega), hs4.2 r (by omega), hsl.2 r (by omega) (by omega)]⟩⟩
  refine Ok.of (ls := [some (.ref 55), some (.int (nI l)), some (.int (nI n)), none]) (Nat.le_of_ble_eq_true rfl) rfl ?_
  refine ex_aload_n dX9_worthBehind_0 rfl rfl ?_
  refine ex_callV (a := 55) (rest := []) dX9_worthBehind_1 rfl qp_8_226 rfl rfl rfl rfl rfl (Nat.le_of_ble_eq_true rfl) (hO1) (Nat.le_of_ble_eq_true rfl) ?_
  show Ex qm_lay _ mX9_worthBehind 4 [some (.ref 55), some (.int (nI l)), some (.int (nI n)), none] [] σ1 _ _
  refine ex_aload_n dX9_worthBehind_4 rfl rfl ?_
  refine ex_iload_n dX9_worthBehind_5 rfl rfl ?_
  refine ex_callV (a := 55) (rest := []) dX9_worthBehind_6 rfl qp_8_241 rfl rfl rfl rfl rfl (Nat.le_of_ble_eq_true rfl) (hO2) (Nat.le_of_ble_eq_true rfl) ?_
  show Ex qm_lay _ mX9_worthBehind 9 [some (.ref 55), some (.int (nI l)), some (.int (nI n)), none] [] σ2 _ _
  refine ex_aload_n dX9_worthBehind_9 rfl rfl ?_
  refine ex_iload_n dX9_worthBehind_10 rfl rfl ?_
  refine ex_callV (a := 55) (rest := []) dX9_worthBehind_11 rfl qp_8_202 rfl rfl rfl rfl rfl (Nat.le_of_ble_eq_true rfl) (k_wouldTake hok2 hR2 hl2) (Nat.le_of_ble_eq_true rfl) ?_
  show Ex qm_lay _ mX9_worthBehind 14 [some (.ref 55), some (.int (nI l)), some (.int (nI n)), none] [.int (nI (tn_wd (tn_bl T (os.take n)) l))] σ2 _ _
  refine ex_istore_n (ls' := [some (.ref 55), some (.int (nI l)), some (.int (nI n)), some (.int (nI (tn_wd (tn_bl T (os.take n)) l)))]) dX9_worthBehind_14 rfl (Nat.le_of_ble_eq_true rfl) rfl rfl ?_
  refine ex_aload_n dX9_worthBehind_15 rfl rfl ?_
  refine ex_callV (a := 55) (rest := []) dX9_worthBehind_16 rfl qp_8_229 rfl rfl rfl rfl rfl (Nat.le_of_ble_eq_true rfl) (hO3) (Nat.le_of_ble_eq_true rfl) ?_
  show Ex qm_lay _ mX9_worthBehind 19 [some (.ref 55), some (.int (nI l)), some (.int (nI n)), some (.int (nI (tn_wd (tn_bl T (os.take n)) l)))] [] σ3 _ _
  refine ex_aload_n dX9_worthBehind_19 rfl rfl ?_
  refine ex_iconst (x := 0) dX9_worthBehind_20 rfl rfl ?_
  refine ex_iload_n dX9_worthBehind_21 rfl rfl ?_
  refine ex_iload_n dX9_worthBehind_22 rfl rfl ?_
  refine ex_iload_n dX9_worthBehind_23 rfl rfl ?_
  refine ex_callV (a := 55) (rest := []) dX9_worthBehind_24 rfl qp_8_179 rfl rfl rfl rfl rfl (Nat.le_of_ble_eq_true rfl) (hOa) (Nat.le_of_ble_eq_true rfl) ?_
  show Ex qm_lay _ mX9_worthBehind 27 [some (.ref 55), some (.int (nI l)), some (.int (nI n)), some (.int (nI (tn_wd (tn_bl T (os.take n)) l)))] [.int (sx_says T X 0 l (nI (tn_wd (tn_bl T (os.take n)) l)) (nI n))] σ4 _ _
  refine ex_aload_n dX9_worthBehind_27 rfl rfl ?_
  refine ex_iconst (x := 1) dX9_worthBehind_28 rfl rfl ?_
  refine ex_iload_n dX9_worthBehind_29 rfl rfl ?_
  refine ex_iload_n dX9_worthBehind_30 rfl rfl ?_
  refine ex_iload_n dX9_worthBehind_31 rfl rfl ?_
  refine ex_callV (a := 55) (rest := [.int (sx_says T X 0 l (nI (tn_wd (tn_bl T (os.take n)) l)) (nI n))]) dX9_worthBehind_32 rfl qp_8_179 rfl rfl rfl rfl rfl (Nat.le_of_ble_eq_true rfl) (hOb) (Nat.le_of_ble_eq_true rfl) ?_
  show Ex qm_lay _ mX9_worthBehind 35 [some (.ref 55), some (.int (nI l)), some (.int (nI n)), some (.int (nI (tn_wd (tn_bl T (os.take n)) l)))] [.int (sx_says T X 1 l (nI (tn_wd (tn_bl T (os.take n)) l)) (nI n)), .int (sx_says T X 0 l (nI (tn_wd (tn_bl T (os.take n)) l)) (nI n))] σ5 _ _
  refine ex_isub (z := sx_says T X 0 l (nI (tn_wd (tn_bl T (os.take n)) l)) (nI n) - sx_says T X 1 l (nI (tn_wd (tn_bl T (os.take n)) l)) (nI n)) dX9_worthBehind_35 rfl (rfl) ?_
  exact ex_iret dX9_worthBehind_36 rfl rfl rfl

set_option maxHeartbeats 2000000 in
theorem l_whenC {T : tn_T} {X : gx_T} {P : gt_T} {Im : gi_T} {S : gs_T} (hG : gg_ok (T, X, P, Im, S)) {l q : Nat} (sh : Int32) (hl : l < tn_L T) (hq : q ≤ 1) {os : List Nat} (hos : ∀ l ∈ os, l < tn_L T) : ∀ (r k : Nat) (x y : Option Value) (hx : qm_free [none, none, none, none, none, none, none, none, x] 9 = true) (p : Int32 × Nat) (σ : qm_St), k + r = os.length + 1 → p.2 ≤ 7 → CG σ (T, X, P, Im, S) → TR σ 13 23 (tn_bl T (os.take k)) → OR σ os → ∃ σ', Ex qm_lay 100 mX8_when 89 [some (.ref 54), some (.int (nI l)), some (.int sh), some (.int (nI q)), some (.int 0), some (.int p.1), some (.int (nI p.2)), some (.int (nI k)), x, y] [] σ (some (.int (if q = 0 then nI (wb_go T X l os r k p).2 else (wb_go T X l os r k p).1))) σ' ∧ CG σ' (T, X, P, Im, S) ∧ sm σ σ' 0 27 0 42 := by
  intro r
  induction r with
  | zero =>
    intro k x y hx p σ hk hp hC h1 hord
    have hT : tn_ok T := hG.1
    have hX : gx_ok X := hG.2.1
    have hP : gt_ok P := hG.2.2.1
    have hI : gi_ok T (gx_n X) Im := hG.2.2.2.1
    have hS : gs_ok S := hG.2.2.2.2.1
    have hw : tn_w T < gx_n X := hG.2.2.2.2.2
    have hL := hT.1
    have hw6 := hT.2.1
    have hu := tn_u_lt hT
    have hX6 := hX.2.1
    have hP6 := hP.1
    have ho7 := hord.2.1
    refine ⟨σ, ?_, hC, sm.rf _ _ _ _ _⟩
    refine ex_iload dX8_when_89 rfl rfl ?_
    refine ex_aload_n dX8_when_91 rfl rfl ?_
    refine ex_getR (b := 48) dX8_when_92 rfl qp_7_43 rfl rfl ?_
    refine ex_getI (s := 21) (x := nI os.length) dX8_when_95 rfl qp_7_196 rfl rfl (hord.1) ?_
    refine ex_icmp_gt (q := 199) (q2 := 101) dX8_when_98 rfl rfl (fun _ => ?_) (fun hh => absurd (nI_lt (a := os.length) (b := k) (by omega) (by omega)) hh)
    refine ex_iload_n dX8_when_199 rfl rfl ?_
    refine ex_if_ne (q := 208) (q2 := 203) dX8_when_200 rfl rfl (fun h200 => ?_) (fun h200 => ?_)
    · have hq0 : ¬ q = 0 := fun z => h200 (congrArg nI z)
      refine ex_iload dX8_when_208 rfl rfl ?_
      exact ex_iret dX8_when_210 rfl (by first | rw [if_neg hq0]; rfl | rw [if_pos hq0]; rfl) rfl
    · have hq0 : q = 0 := (nI_eq (b := 0) (by omega) (by decide)).mp (Decidable.not_not.mp h200)
      refine ex_iload dX8_when_203 rfl rfl ?_
      refine ex_goto (q := 210) dX8_when_205 rfl ?_
      exact ex_iret dX8_when_210 rfl (by first | rw [if_neg hq0]; rfl | rw [if_pos hq0]; rfl) rfl
  | succ r ih =>
    intro k x y hx p σ hk hp hC h1 hord
    have hT : tn_ok T := hG.1
    have hX : gx_ok X := hG.2.1
    have hP : gt_ok P := hG.2.2.1
    have hI : gi_ok T (gx_n X) Im := hG.2.2.2.1
    have hS : gs_ok S := hG.2.2.2.2.1
    have hw : tn_w T < gx_n X := hG.2.2.2.2.2
    have hL := hT.1
    have hw6 := hT.2.1
    have hu := tn_u_lt hT
    have hX6 := hX.2.1
    have hP6 := hP.1
    have ho7 := hord.2.1
    have hok := tn_bl_ok (os.take k) hT (os_take_ok hos)
    obtain ⟨q1, q2, q3, q4, q5⟩ := tn_bl_same (os.take k) T
    have hl1 : l < tn_L (tn_bl T (os.take k)) := by rw [q1]; exact hl
    have hw1 : tn_w (tn_bl T (os.take k)) < gx_n X := by rw [q2]; exact hw
    obtain ⟨σ1, hOa, hs1⟩ := c_says_1 hok hX hw1 h1 hC.2.1 (part := 0) (by decide) hl1 (nI (tn_wd (tn_bl T (os.take k)) l)) (nI k)
    have hC1 := CG.says hX hC hs1
    have h11 := h1.sm hs1 (by omega) (by omega)
    obtain ⟨σ2, hOb, hs2⟩ := c_says_1 hok hX hw1 h11 hC1.2.1 (part := 1) (by decide) hl1 (nI (tn_wd (tn_bl T (os.take k)) l)) (nI k)
    have hC2 := CG.says hX hC1 hs2
    have h12 := h11.sm hs2 (by omega) (by omega)
    have hord2 := (hord.sm hs1 (by omega) (by omega)).sm hs2 (by omega) (by omega)
    rw [sx_says_bl q1 q2 q3 q4] at hOa hOb
    have hs12 : sm σ σ2 0 27 0 42 := (hs1.wid (i3 := 0) (i4 := 27) (j3 := 0) (j4 := 42) (by omega) (by omega)).tr (hs2.wid (by omega) (by omega))
    obtain ⟨g, hg⟩ : ∃ g, g = wb T X l os k := ⟨_, rfl⟩
    have e1 : wb_go T X l os (r + 1) k p = wb_go T X l os r (k + 1) (if p.1 < g then (g, k) else p) := by rw [wb_go, ← hg]
    rw [e1]
    have hp2 : (if p.1 < g then (g, k) else p).2 ≤ 7 := by split <;> omega
    by_cases c1 : k < os.length
    · have hlk : os.getD k 0 < tn_L (tn_bl T (os.take k)) := by rw [q1]; exact hos _ (getD_mem c1)
      obtain ⟨σ3, hOc, hR3, hs3⟩ := c_buildHouse_1 hok h12 hlk
      have hC3 := CG.think hG hC2 hs3
      rw [show tn_bh (tn_bl T (os.take k)) (os.getD k 0) = tn_bl T (os.take (k + 1)) from (tn_bl_take c1).symm] at hR3
      have hord3 := hord2.sm hs3 (by omega) (by omega)
      have hs13 : sm σ σ3 0 27 0 42 := hs12.tr (hs3.wid (by omega) (by omega))
      obtain ⟨σ', hE, hC4, hs4⟩ := ih (k + 1) (some (.int (nI (tn_wd (tn_bl T (os.take k)) l)))) (some (.int g)) rfl (if p.1 < g then (g, k) else p) σ3 (by omega) hp2 hC3 hR3 hord3
      refine ⟨σ', ?_, hC4, hs13.tr hs4⟩
      by_cases c2 : p.1 < g
      · simp only [if_pos c2] at hE ⊢
        refine ex_iload dX8_when_89 rfl rfl ?_
        refine ex_aload_n dX8_when_91 rfl rfl ?_
        refine ex_getR (b := 48) dX8_when_92 rfl qp_7_43 rfl rfl ?_
        refine ex_getI (s := 21) (x := nI os.length) dX8_when_95 rfl qp_7_196 rfl rfl (hord.1) ?_
        refine ex_icmp_gt (q := 199) (q2 := 101) dX8_when_98 rfl rfl (fun hh => absurd hh (nI_nlt (a := os.length) (b := k) (by omega) (by omega))) (fun _ => ?_)
        refine ex_aload_n dX8_when_101 rfl rfl ?_
        refine ex_getR (b := 28) dX8_when_102 rfl qp_7_16 rfl rfl ?_
        refine ex_iload_n dX8_when_105 rfl rfl ?_
        refine ex_callV (a := 28) (rest := []) dX8_when_106 rfl qp_7_136 rfl rfl rfl rfl rfl (Nat.le_of_ble_eq_true rfl) (c_wouldTake_1 hok h1 hl1) (Nat.le_of_ble_eq_true rfl) ?_
        show Ex qm_lay _ mX8_when 109 [some (.ref 54), some (.int (nI l)), some (.int sh), some (.int (nI q)), some (.int 0), some (.int p.1), some (.int (nI p.2)), some (.int (nI k)), x, y] [.int (nI (tn_wd (tn_bl T (os.take k)) l))] σ _ _
        refine ex_istore (ls' := [some (.ref 54), some (.int (nI l)), some (.int sh), some (.int (nI q)), some (.int 0), some (.int p.1), some (.int (nI p.2)), some (.int (nI k)), some (.int (nI (tn_wd (tn_bl T (os.take k)) l))), y]) dX8_when_109 rfl (Nat.le_of_ble_eq_true rfl) rfl rfl ?_
        refine ex_aload_n dX8_when_111 rfl rfl ?_
        refine ex_getR (b := 4) dX8_when_112 rfl qp_7_29 rfl rfl ?_
        refine ex_iconst (x := 0) dX8_when_115 rfl rfl ?_
        refine ex_aload_n dX8_when_116 rfl rfl ?_
        refine ex_getR (b := 28) dX8_when_117 rfl qp_7_16 rfl rfl ?_
        refine ex_iload_n dX8_when_120 rfl rfl ?_
        refine ex_iload dX8_when_121 rfl rfl ?_
        refine ex_iload dX8_when_123 rfl rfl ?_
        refine ex_callV (a := 4) (rest := []) dX8_when_125 rfl qp_7_101 rfl rfl rfl rfl rfl (Nat.le_of_ble_eq_true rfl) (hOa) (Nat.le_of_ble_eq_true rfl) ?_
        show Ex qm_lay _ mX8_when 128 [some (.ref 54), some (.int (nI l)), some (.int sh), some (.int (nI q)), some (.int 0), some (.int p.1), some (.int (nI p.2)), some (.int (nI k)), some (.int (nI (tn_wd (tn_bl T (os.take k)) l))), y] [.int (sx_says T X 0 l (nI (tn_wd (tn_bl T (os.take k)) l)) (nI k))] σ1 _ _
        refine ex_aload_n dX8_when_128 rfl rfl ?_
        refine ex_getR (b := 4) dX8_when_129 rfl qp_7_29 rfl rfl ?_
        refine ex_iconst (x := 1) dX8_when_132 rfl rfl ?_
        refine ex_aload_n dX8_when_133 rfl rfl ?_
        refine ex_getR (b := 28) dX8_when_134 rfl qp_7_16 rfl rfl ?_
        refine ex_iload_n dX8_when_137 rfl rfl ?_
        refine ex_iload dX8_when_138 rfl rfl ?_
        refine ex_iload dX8_when_140 rfl rfl ?_
        refine ex_callV (a := 4) (rest := [.int (sx_says T X 0 l (nI (tn_wd (tn_bl T (os.take k)) l)) (nI k))]) dX8_when_142 rfl qp_7_101 rfl rfl rfl rfl rfl (Nat.le_of_ble_eq_true rfl) (hOb) (Nat.le_of_ble_eq_true rfl) ?_
        show Ex qm_lay _ mX8_when 145 [some (.ref 54), some (.int (nI l)), some (.int sh), some (.int (nI q)), some (.int 0), some (.int p.1), some (.int (nI p.2)), some (.int (nI k)), some (.int (nI (tn_wd (tn_bl T (os.take k)) l))), y] [.int (sx_says T X 1 l (nI (tn_wd (tn_bl T (os.take k)) l)) (nI k)), .int (sx_says T X 0 l (nI (tn_wd (tn_bl T (os.take k)) l)) (nI k))] σ2 _ _
        refine ex_isub (z := g) dX8_when_145 rfl (hg.symm) ?_
        refine ex_istore (ls' := [some (.ref 54), some (.int (nI l)), some (.int sh), some (.int (nI q)), some (.int 0), some (.int p.1), some (.int (nI p.2)), some (.int (nI k)), some (.int (nI (tn_wd (tn_bl T (os.take k)) l))), some (.int g)]) dX8_when_146 rfl (Nat.le_of_ble_eq_true rfl) rfl rfl ?_
        refine ex_iload dX8_when_148 rfl rfl ?_
        refine ex_iload dX8_when_150 rfl rfl ?_
        refine ex_icmp_le (q := 163) (q2 := 155) dX8_when_152 rfl rfl (fun hh => absurd hh (Int32.not_le.mpr c2)) (fun _ => ?_)
        refine ex_iload dX8_when_155 rfl rfl ?_
        refine ex_istore (ls' := [some (.ref 54), some (.int (nI l)), some (.int sh), some (.int (nI q)), some (.int 0), some (.int g), some (.int (nI p.2)), some (.int (nI k)), some (.int (nI (tn_wd (tn_bl T (os.take k)) l))), some (.int g)]) dX8_when_157 rfl (Nat.le_of_ble_eq_true rfl) rfl rfl ?_
        refine ex_iload dX8_when_159 rfl rfl ?_
        refine ex_istore (ls' := [some (.ref 54), some (.int (nI l)), some (.int sh), some (.int (nI q)), some (.int 0), some (.int g), some (.int (nI k)), some (.int (nI k)), some (.int (nI (tn_wd (tn_bl T (os.take k)) l))), some (.int g)]) dX8_when_161 rfl (Nat.le_of_ble_eq_true rfl) rfl rfl ?_
        refine ex_iload dX8_when_163 rfl rfl ?_
        refine ex_aload_n dX8_when_165 rfl rfl ?_
        refine ex_getR (b := 48) dX8_when_166 rfl qp_7_43 rfl rfl ?_
        refine ex_getI (s := 21) (x := nI os.length) dX8_when_169 rfl qp_7_196 rfl rfl (hord2.1) ?_
        refine ex_icmp_ge (q := 193) (q2 := 175) dX8_when_172 rfl rfl (fun hh => absurd hh (nI_ge (a := k) (b := os.length) (by omega) (by omega))) (fun _ => ?_)
        refine ex_aload_n dX8_when_175 rfl rfl ?_
        refine ex_getR (b := 28) dX8_when_176 rfl qp_7_16 rfl rfl ?_
        refine ex_aload_n dX8_when_179 rfl rfl ?_
        refine ex_getR (b := 48) dX8_when_180 rfl qp_7_43 rfl rfl ?_
        refine ex_getR (b := 49) dX8_when_183 rfl qp_7_214 rfl rfl ?_
        refine ex_iload dX8_when_186 rfl rfl ?_
        refine ex_iaload (k := k) (x := nI (os.getD k 0)) dX8_when_188 rfl rfl (rfl) (by omega) (by decide) (hord2.2.2 k (by omega)) ?_
        refine ex_callV (a := 28) (rest := []) dX8_when_189 rfl qp_7_133 rfl rfl rfl rfl rfl (Nat.le_of_ble_eq_true rfl) (hOc) (Nat.le_of_ble_eq_true rfl) ?_
        show Ex qm_lay _ mX8_when 192 [some (.ref 54), some (.int (nI l)), some (.int sh), some (.int (nI q)), some (.int 0), some (.int g), some (.int (nI k)), some (.int (nI k)), some (.int (nI (tn_wd (tn_bl T (os.take k)) l))), some (.int g)] [.int (nI (tn_wd (tn_bl T (os.take k)) (os.getD k 0)))] σ3 _ _
        refine ex_pop dX8_when_192 rfl rfl ?_
        refine ex_iinc (y := nI (k + 1)) (ls' := [some (.ref 54), some (.int (nI l)), some (.int sh), some (.int (nI q)), some (.int 0), some (.int g), some (.int (nI k)), some (.int (nI (k + 1))), some (.int (nI (tn_wd (tn_bl T (os.take k)) l))), some (.int g)]) dX8_when_193 rfl rfl rfl (nI_add k 1) rfl ?_
        refine ex_goto (q := 89) dX8_when_196 rfl ?_
        exact hE
      · simp only [if_neg c2] at hE ⊢
        refine ex_iload dX8_when_89 rfl rfl ?_
        refine ex_aload_n dX8_when_91 rfl rfl ?_
        refine ex_getR (b := 48) dX8_when_92 rfl qp_7_43 rfl rfl ?_
        refine ex_getI (s := 21) (x := nI os.length) dX8_when_95 rfl qp_7_196 rfl rfl (hord.1) ?_
        refine ex_icmp_gt (q := 199) (q2 := 101) dX8_when_98 rfl rfl (fun hh => absurd hh (nI_nlt (a := os.length) (b := k) (by omega) (by omega))) (fun _ => ?_)
        refine ex_aload_n dX8_when_101 rfl rfl ?_
        refine ex_getR (b := 28) dX8_when_102 rfl qp_7_16 rfl rfl ?_
        refine ex_iload_n dX8_when_105 rfl rfl ?_
        refine ex_callV (a := 28) (rest := []) dX8_when_106 rfl qp_7_136 rfl rfl rfl rfl rfl (Nat.le_of_ble_eq_true rfl) (c_wouldTake_1 hok h1 hl1) (Nat.le_of_ble_eq_true rfl) ?_
        show Ex qm_lay _ mX8_when 109 [some (.ref 54), some (.int (nI l)), some (.int sh), some (.int (nI q)), some (.int 0), some (.int p.1), some (.int (nI p.2)), some (.int (nI k)), x, y] [.int (nI (tn_wd (tn_bl T (os.take k)) l))] σ _ _
        refine ex_istore (ls' := [some (.ref 54), some (.int (nI l)), some (.int sh), some (.int (nI q)), some (.int 0), some (.int p.1), some (.int (nI p.2)), some (.int (nI k)), some (.int (nI (tn_wd (tn_bl T (os.take k)) l))), y]) dX8_when_109 rfl (Nat.le_of_ble_eq_true rfl) rfl rfl ?_
        refine ex_aload_n dX8_when_111 rfl rfl ?_
        refine ex_getR (b := 4) dX8_when_112 rfl qp_7_29 rfl rfl ?_
        refine ex_iconst (x := 0) dX8_when_115 rfl rfl ?_
        refine ex_aload_n dX8_when_116 rfl rfl ?_
        refine ex_getR (b := 28) dX8_when_117 rfl qp_7_16 rfl rfl ?_
        refine ex_iload_n dX8_when_120 rfl rfl ?_
        refine ex_iload dX8_when_121 rfl rfl ?_
        refine ex_iload dX8_when_123 rfl rfl ?_
        refine ex_callV (a := 4) (rest := []) dX8_when_125 rfl qp_7_101 rfl rfl rfl rfl rfl (Nat.le_of_ble_eq_true rfl) (hOa) (Nat.le_of_ble_eq_true rfl) ?_
        show Ex qm_lay _ mX8_when 128 [some (.ref 54), some (.int (nI l)), some (.int sh), some (.int (nI q)), some (.int 0), some (.int p.1), some (.int (nI p.2)), some (.int (nI k)), some (.int (nI (tn_wd (tn_bl T (os.take k)) l))), y] [.int (sx_says T X 0 l (nI (tn_wd (tn_bl T (os.take k)) l)) (nI k))] σ1 _ _
        refine ex_aload_n dX8_when_128 rfl rfl ?_
        refine ex_getR (b := 4) dX8_when_129 rfl qp_7_29 rfl rfl ?_
        refine ex_iconst (x := 1) dX8_when_132 rfl rfl ?_
        refine ex_aload_n dX8_when_133 rfl rfl ?_
        refine ex_getR (b := 28) dX8_when_134 rfl qp_7_16 rfl rfl ?_
        refine ex_iload_n dX8_when_137 rfl rfl ?_
        refine ex_iload dX8_when_138 rfl rfl ?_
        refine ex_iload dX8_when_140 rfl rfl ?_
        refine ex_callV (a := 4) (rest := [.int (sx_says T X 0 l (nI (tn_wd (tn_bl T (os.take k)) l)) (nI k))]) dX8_when_142 rfl qp_7_101 rfl rfl rfl rfl rfl (Nat.le_of_ble_eq_true rfl) (hOb) (Nat.le_of_ble_eq_true rfl) ?_
        show Ex qm_lay _ mX8_when 145 [some (.ref 54), some (.int (nI l)), some (.int sh), some (.int (nI q)), some (.int 0), some (.int p.1), some (.int (nI p.2)), some (.int (nI k)), some (.int (nI (tn_wd (tn_bl T (os.take k)) l))), y] [.int (sx_says T X 1 l (nI (tn_wd (tn_bl T (os.take k)) l)) (nI k)), .int (sx_says T X 0 l (nI (tn_wd (tn_bl T (os.take k)) l)) (nI k))] σ2 _ _
        refine ex_isub (z := g) dX8_when_145 rfl (hg.symm) ?_
        refine ex_istore (ls' := [some (.ref 54), some (.int (nI l)), some (.int sh), some (.int (nI q)), some (.int 0), some (.int p.1), some (.int (nI p.2)), some (.int (nI k)), some (.int (nI (tn_wd (tn_bl T (os.take k)) l))), some (.int g)]) dX8_when_146 rfl (Nat.le_of_ble_eq_true rfl) rfl rfl ?_
        refine ex_iload dX8_when_148 rfl rfl ?_
        refine ex_iload dX8_when_150 rfl rfl ?_
        refine ex_icmp_le (q := 163) (q2 := 155) dX8_when_152 rfl rfl (fun _ => ?_) (fun hh => absurd (Int32.not_lt.mp c2) hh)
        refine ex_iload dX8_when_163 rfl rfl ?_
        refine ex_aload_n dX8_when_165 rfl rfl ?_
        refine ex_getR (b := 48) dX8_when_166 rfl qp_7_43 rfl rfl ?_
        refine ex_getI (s := 21) (x := nI os.length) dX8_when_169 rfl qp_7_196 rfl rfl (hord2.1) ?_
        refine ex_icmp_ge (q := 193) (q2 := 175) dX8_when_172 rfl rfl (fun hh => absurd hh (nI_ge (a := k) (b := os.length) (by omega) (by omega))) (fun _ => ?_)
        refine ex_aload_n dX8_when_175 rfl rfl ?_
        refine ex_getR (b := 28) dX8_when_176 rfl qp_7_16 rfl rfl ?_
        refine ex_aload_n dX8_when_179 rfl rfl ?_
        refine ex_getR (b := 48) dX8_when_180 rfl qp_7_43 rfl rfl ?_
        refine ex_getR (b := 49) dX8_when_183 rfl qp_7_214 rfl rfl ?_
        refine ex_iload dX8_when_186 rfl rfl ?_
        refine ex_iaload (k := k) (x := nI (os.getD k 0)) dX8_when_188 rfl rfl (rfl) (by omega) (by decide) (hord2.2.2 k (by omega)) ?_
        refine ex_callV (a := 28) (rest := []) dX8_when_189 rfl qp_7_133 rfl rfl rfl rfl rfl (Nat.le_of_ble_eq_true rfl) (hOc) (Nat.le_of_ble_eq_true rfl) ?_
        show Ex qm_lay _ mX8_when 192 [some (.ref 54), some (.int (nI l)), some (.int sh), some (.int (nI q)), some (.int 0), some (.int p.1), some (.int (nI p.2)), some (.int (nI k)), some (.int (nI (tn_wd (tn_bl T (os.take k)) l))), some (.int g)] [.int (nI (tn_wd (tn_bl T (os.take k)) (os.getD k 0)))] σ3 _ _
        refine ex_pop dX8_when_192 rfl rfl ?_
        refine ex_iinc (y := nI (k + 1)) (ls' := [some (.ref 54), some (.int (nI l)), some (.int sh), some (.int (nI q)), some (.int 0), some (.int p.1), some (.int (nI p.2)), some (.int (nI (k + 1))), some (.int (nI (tn_wd (tn_bl T (os.take k)) l))), some (.int g)]) dX8_when_193 rfl rfl rfl (nI_add k 1) rfl ?_
        refine ex_goto (q := 89) dX8_when_196 rfl ?_
        exact hE
    · have hC3 := hC2
      have hR3 := h12
      rw [show os.take k = os.take (k + 1) by rw [List.take_of_length_le (by omega), List.take_of_length_le (by omega)]] at hR3
      have hord3 := hord2
      have hs13 := hs12
      obtain ⟨σ', hE, hC4, hs4⟩ := ih (k + 1) (some (.int (nI (tn_wd (tn_bl T (os.take k)) l)))) (some (.int g)) rfl (if p.1 < g then (g, k) else p) σ2 (by omega) hp2 hC3 hR3 hord3
      refine ⟨σ', ?_, hC4, hs13.tr hs4⟩
      by_cases c2 : p.1 < g
      · simp only [if_pos c2] at hE ⊢
        refine ex_iload dX8_when_89 rfl rfl ?_
        refine ex_aload_n dX8_when_91 rfl rfl ?_
        refine ex_getR (b := 48) dX8_when_92 rfl qp_7_43 rfl rfl ?_
        refine ex_getI (s := 21) (x := nI os.length) dX8_when_95 rfl qp_7_196 rfl rfl (hord.1) ?_
        refine ex_icmp_gt (q := 199) (q2 := 101) dX8_when_98 rfl rfl (fun hh => absurd hh (nI_nlt (a := os.length) (b := k) (by omega) (by omega))) (fun _ => ?_)
        refine ex_aload_n dX8_when_101 rfl rfl ?_
        refine ex_getR (b := 28) dX8_when_102 rfl qp_7_16 rfl rfl ?_
        refine ex_iload_n dX8_when_105 rfl rfl ?_
        refine ex_callV (a := 28) (rest := []) dX8_when_106 rfl qp_7_136 rfl rfl rfl rfl rfl (Nat.le_of_ble_eq_true rfl) (c_wouldTake_1 hok h1 hl1) (Nat.le_of_ble_eq_true rfl) ?_
        show Ex qm_lay _ mX8_when 109 [some (.ref 54), some (.int (nI l)), some (.int sh), some (.int (nI q)), some (.int 0), some (.int p.1), some (.int (nI p.2)), some (.int (nI k)), x, y] [.int (nI (tn_wd (tn_bl T (os.take k)) l))] σ _ _
        refine ex_istore (ls' := [some (.ref 54), some (.int (nI l)), some (.int sh), some (.int (nI q)), some (.int 0), some (.int p.1), some (.int (nI p.2)), some (.int (nI k)), some (.int (nI (tn_wd (tn_bl T (os.take k)) l))), y]) dX8_when_109 rfl (Nat.le_of_ble_eq_true rfl) rfl rfl ?_
        refine ex_aload_n dX8_when_111 rfl rfl ?_
        refine ex_getR (b := 4) dX8_when_112 rfl qp_7_29 rfl rfl ?_
        refine ex_iconst (x := 0) dX8_when_115 rfl rfl ?_
        refine ex_aload_n dX8_when_116 rfl rfl ?_
        refine ex_getR (b := 28) dX8_when_117 rfl qp_7_16 rfl rfl ?_
        refine ex_iload_n dX8_when_120 rfl rfl ?_
        refine ex_iload dX8_when_121 rfl rfl ?_
        refine ex_iload dX8_when_123 rfl rfl ?_
        refine ex_callV (a := 4) (rest := []) dX8_when_125 rfl qp_7_101 rfl rfl rfl rfl rfl (Nat.le_of_ble_eq_true rfl) (hOa) (Nat.le_of_ble_eq_true rfl) ?_
        show Ex qm_lay _ mX8_when 128 [some (.ref 54), some (.int (nI l)), some (.int sh), some (.int (nI q)), some (.int 0), some (.int p.1), some (.int (nI p.2)), some (.int (nI k)), some (.int (nI (tn_wd (tn_bl T (os.take k)) l))), y] [.int (sx_says T X 0 l (nI (tn_wd (tn_bl T (os.take k)) l)) (nI k))] σ1 _ _
        refine ex_aload_n dX8_when_128 rfl rfl ?_
        refine ex_getR (b := 4) dX8_when_129 rfl qp_7_29 rfl rfl ?_
        refine ex_iconst (x := 1) dX8_when_132 rfl rfl ?_
        refine ex_aload_n dX8_when_133 rfl rfl ?_
        refine ex_getR (b := 28) dX8_when_134 rfl qp_7_16 rfl rfl ?_
        refine ex_iload_n dX8_when_137 rfl rfl ?_
        refine ex_iload dX8_when_138 rfl rfl ?_
        refine ex_iload dX8_when_140 rfl rfl ?_
        refine ex_callV (a := 4) (rest := [.int (sx_says T X 0 l (nI (tn_wd (tn_bl T (os.take k)) l)) (nI k))]) dX8_when_142 rfl qp_7_101 rfl rfl rfl rfl rfl (Nat.le_of_ble_eq_true rfl) (hOb) (Nat.le_of_ble_eq_true rfl) ?_
        show Ex qm_lay _ mX8_when 145 [some (.ref 54), some (.int (nI l)), some (.int sh), some (.int (nI q)), some (.int 0), some (.int p.1), some (.int (nI p.2)), some (.int (nI k)), some (.int (nI (tn_wd (tn_bl T (os.take k)) l))), y] [.int (sx_says T X 1 l (nI (tn_wd (tn_bl T (os.take k)) l)) (nI k)), .int (sx_says T X 0 l (nI (tn_wd (tn_bl T (os.take k)) l)) (nI k))] σ2 _ _
        refine ex_isub (z := g) dX8_when_145 rfl (hg.symm) ?_
        refine ex_istore (ls' := [some (.ref 54), some (.int (nI l)), some (.int sh), some (.int (nI q)), some (.int 0), some (.int p.1), some (.int (nI p.2)), some (.int (nI k)), some (.int (nI (tn_wd (tn_bl T (os.take k)) l))), some (.int g)]) dX8_when_146 rfl (Nat.le_of_ble_eq_true rfl) rfl rfl ?_
        refine ex_iload dX8_when_148 rfl rfl ?_
        refine ex_iload dX8_when_150 rfl rfl ?_
        refine ex_icmp_le (q := 163) (q2 := 155) dX8_when_152 rfl rfl (fun hh => absurd hh (Int32.not_le.mpr c2)) (fun _ => ?_)
        refine ex_iload dX8_when_155 rfl rfl ?_
        refine ex_istore (ls' := [some (.ref 54), some (.int (nI l)), some (.int sh), some (.int (nI q)), some (.int 0), some (.int g), some (.int (nI p.2)), some (.int (nI k)), some (.int (nI (tn_wd (tn_bl T (os.take k)) l))), some (.int g)]) dX8_when_157 rfl (Nat.le_of_ble_eq_true rfl) rfl rfl ?_
        refine ex_iload dX8_when_159 rfl rfl ?_
        refine ex_istore (ls' := [some (.ref 54), some (.int (nI l)), some (.int sh), some (.int (nI q)), some (.int 0), some (.int g), some (.int (nI k)), some (.int (nI k)), some (.int (nI (tn_wd (tn_bl T (os.take k)) l))), some (.int g)]) dX8_when_161 rfl (Nat.le_of_ble_eq_true rfl) rfl rfl ?_
        refine ex_iload dX8_when_163 rfl rfl ?_
        refine ex_aload_n dX8_when_165 rfl rfl ?_
        refine ex_getR (b := 48) dX8_when_166 rfl qp_7_43 rfl rfl ?_
        refine ex_getI (s := 21) (x := nI os.length) dX8_when_169 rfl qp_7_196 rfl rfl (hord2.1) ?_
        refine ex_icmp_ge (q := 193) (q2 := 175) dX8_when_172 rfl rfl (fun _ => ?_) (fun hh => absurd (nI_le (a := os.length) (b := k) (by omega) (by omega)) hh)
        refine ex_iinc (y := nI (k + 1)) (ls' := [some (.ref 54), some (.int (nI l)), some (.int sh), some (.int (nI q)), some (.int 0), some (.int g), some (.int (nI k)), some (.int (nI (k + 1))), some (.int (nI (tn_wd (tn_bl T (os.take k)) l))), some (.int g)]) dX8_when_193 rfl rfl rfl (nI_add k 1) rfl ?_
        refine ex_goto (q := 89) dX8_when_196 rfl ?_
        exact hE
      · simp only [if_neg c2] at hE ⊢
        refine ex_iload dX8_when_89 rfl rfl ?_
        refine ex_aload_n dX8_when_91 rfl rfl ?_
        refine ex_getR (b := 48) dX8_when_92 rfl qp_7_43 rfl rfl ?_
        refine ex_getI (s := 21) (x := nI os.length) dX8_when_95 rfl qp_7_196 rfl rfl (hord.1) ?_
        refine ex_icmp_gt (q := 199) (q2 := 101) dX8_when_98 rfl rfl (fun hh => absurd hh (nI_nlt (a := os.length) (b := k) (by omega) (by omega))) (fun _ => ?_)
        refine ex_aload_n dX8_when_101 rfl rfl ?_
        refine ex_getR (b := 28) dX8_when_102 rfl qp_7_16 rfl rfl ?_
        refine ex_iload_n dX8_when_105 rfl rfl ?_
        refine ex_callV (a := 28) (rest := []) dX8_when_106 rfl qp_7_136 rfl rfl rfl rfl rfl (Nat.le_of_ble_eq_true rfl) (c_wouldTake_1 hok h1 hl1) (Nat.le_of_ble_eq_true rfl) ?_
        show Ex qm_lay _ mX8_when 109 [some (.ref 54), some (.int (nI l)), some (.int sh), some (.int (nI q)), some (.int 0), some (.int p.1), some (.int (nI p.2)), some (.int (nI k)), x, y] [.int (nI (tn_wd (tn_bl T (os.take k)) l))] σ _ _
        refine ex_istore (ls' := [some (.ref 54), some (.int (nI l)), some (.int sh), some (.int (nI q)), some (.int 0), some (.int p.1), some (.int (nI p.2)), some (.int (nI k)), some (.int (nI (tn_wd (tn_bl T (os.take k)) l))), y]) dX8_when_109 rfl (Nat.le_of_ble_eq_true rfl) rfl rfl ?_
        refine ex_aload_n dX8_when_111 rfl rfl ?_
        refine ex_getR (b := 4) dX8_when_112 rfl qp_7_29 rfl rfl ?_
        refine ex_iconst (x := 0) dX8_when_115 rfl rfl ?_
        refine ex_aload_n dX8_when_116 rfl rfl ?_
        refine ex_getR (b := 28) dX8_when_117 rfl qp_7_16 rfl rfl ?_
        refine ex_iload_n dX8_when_120 rfl rfl ?_
        refine ex_iload dX8_when_121 rfl rfl ?_
        refine ex_iload dX8_when_123 rfl rfl ?_
        refine ex_callV (a := 4) (rest := []) dX8_when_125 rfl qp_7_101 rfl rfl rfl rfl rfl (Nat.le_of_ble_eq_true rfl) (hOa) (Nat.le_of_ble_eq_true rfl) ?_
        show Ex qm_lay _ mX8_when 128 [some (.ref 54), some (.int (nI l)), some (.int sh), some (.int (nI q)), some (.int 0), some (.int p.1), some (.int (nI p.2)), some (.int (nI k)), some (.int (nI (tn_wd (tn_bl T (os.take k)) l))), y] [.int (sx_says T X 0 l (nI (tn_wd (tn_bl T (os.take k)) l)) (nI k))] σ1 _ _
        refine ex_aload_n dX8_when_128 rfl rfl ?_
        refine ex_getR (b := 4) dX8_when_129 rfl qp_7_29 rfl rfl ?_
        refine ex_iconst (x := 1) dX8_when_132 rfl rfl ?_
        refine ex_aload_n dX8_when_133 rfl rfl ?_
        refine ex_getR (b := 28) dX8_when_134 rfl qp_7_16 rfl rfl ?_
        refine ex_iload_n dX8_when_137 rfl rfl ?_
        refine ex_iload dX8_when_138 rfl rfl ?_
        refine ex_iload dX8_when_140 rfl rfl ?_
        refine ex_callV (a := 4) (rest := [.int (sx_says T X 0 l (nI (tn_wd (tn_bl T (os.take k)) l)) (nI k))]) dX8_when_142 rfl qp_7_101 rfl rfl rfl rfl rfl (Nat.le_of_ble_eq_true rfl) (hOb) (Nat.le_of_ble_eq_true rfl) ?_
        show Ex qm_lay _ mX8_when 145 [some (.ref 54), some (.int (nI l)), some (.int sh), some (.int (nI q)), some (.int 0), some (.int p.1), some (.int (nI p.2)), some (.int (nI k)), some (.int (nI (tn_wd (tn_bl T (os.take k)) l))), y] [.int (sx_says T X 1 l (nI (tn_wd (tn_bl T (os.take k)) l)) (nI k)), .int (sx_says T X 0 l (nI (tn_wd (tn_bl T (os.take k)) l)) (nI k))] σ2 _ _
        refine ex_isub (z := g) dX8_when_145 rfl (hg.symm) ?_
        refine ex_istore (ls' := [some (.ref 54), some (.int (nI l)), some (.int sh), some (.int (nI q)), some (.int 0), some (.int p.1), some (.int (nI p.2)), some (.int (nI k)), some (.int (nI (tn_wd (tn_bl T (os.take k)) l))), some (.int g)]) dX8_when_146 rfl (Nat.le_of_ble_eq_true rfl) rfl rfl ?_
        refine ex_iload dX8_when_148 rfl rfl ?_
        refine ex_iload dX8_when_150 rfl rfl ?_
        refine ex_icmp_le (q := 163) (q2 := 155) dX8_when_152 rfl rfl (fun _ => ?_) (fun hh => absurd (Int32.not_lt.mp c2) hh)
        refine ex_iload dX8_when_163 rfl rfl ?_
        refine ex_aload_n dX8_when_165 rfl rfl ?_
        refine ex_getR (b := 48) dX8_when_166 rfl qp_7_43 rfl rfl ?_
        refine ex_getI (s := 21) (x := nI os.length) dX8_when_169 rfl qp_7_196 rfl rfl (hord2.1) ?_
        refine ex_icmp_ge (q := 193) (q2 := 175) dX8_when_172 rfl rfl (fun _ => ?_) (fun hh => absurd (nI_le (a := os.length) (b := k) (by omega) (by omega)) hh)
        refine ex_iinc (y := nI (k + 1)) (ls' := [some (.ref 54), some (.int (nI l)), some (.int sh), some (.int (nI q)), some (.int 0), some (.int p.1), some (.int (nI p.2)), some (.int (nI (k + 1))), some (.int (nI (tn_wd (tn_bl T (os.take k)) l))), some (.int g)]) dX8_when_193 rfl rfl rfl (nI_add k 1) rfl ?_
        refine ex_goto (q := 89) dX8_when_196 rfl ?_
        exact hE

set_option maxHeartbeats 2000000 in
theorem l_whenM {T : tn_T} {X : gx_T} {P : gt_T} {Im : gi_T} {S : gs_T} (hG : gg_ok (T, X, P, Im, S)) {l q : Nat} (sh : Int32) (hl : l < tn_L T) (hq : q ≤ 1) {os : List Nat} (hos : ∀ l ∈ os, l < tn_L T) : ∀ (r k : Nat) (x : Option Value) (p : Int32 × Nat) (σ : qm_St), k + r = os.length + 1 → p.2 ≤ 7 → MG σ (T, X, P, Im, S) → RR σ os → ∃ σ', Ex qm_lay 100 mX9_when 73 [some (.ref 55), some (.int (nI l)), some (.int sh), some (.int (nI q)), some (.int 0), some (.int (nI p.2)), some (.int p.1), some (.int (nI k)), x] [] σ (some (.int (if q = 0 then nI (wb_go T X l os r k p).2 else (wb_go T X l os r k p).1))) σ' ∧ MG σ' (T, X, P, Im, S) ∧ sm σ σ' 27 46 42 62 := by
  intro r
  induction r with
  | zero =>
    intro k x p σ hk hp hM hor
    have hT : tn_ok T := hG.1
    have hX : gx_ok X := hG.2.1
    have hP : gt_ok P := hG.2.2.1
    have hI : gi_ok T (gx_n X) Im := hG.2.2.2.1
    have hS : gs_ok S := hG.2.2.2.2.1
    have hw : tn_w T < gx_n X := hG.2.2.2.2.2
    have hL := hT.1
    have hw6 := hT.2.1
    have hu := tn_u_lt hT
    have hX6 := hX.2.1
    have hP6 := hP.1
    have ho7 := hor.2.1
    refine ⟨σ, ?_, hM, sm.rf _ _ _ _ _⟩
    refine ex_iload dX9_when_73 rfl rfl ?_
    refine ex_aload_n dX9_when_75 rfl rfl ?_
    refine ex_getI (s := 44) (x := nI os.length) dX9_when_76 rfl qp_8_235 rfl rfl (hor.1) ?_
    refine ex_icmp_gt (q := 129) (q2 := 82) dX9_when_79 rfl rfl (fun _ => ?_) (fun hh => absurd (nI_lt (a := os.length) (b := k) (by omega) (by omega)) hh)
    refine ex_iload_n dX9_when_129 rfl rfl ?_
    refine ex_if_ne (q := 138) (q2 := 133) dX9_when_130 rfl rfl (fun h130 => ?_) (fun h130 => ?_)
    · have hq0 : ¬ q = 0 := fun z => h130 (congrArg nI z)
      refine ex_iload dX9_when_138 rfl rfl ?_
      exact ex_iret dX9_when_140 rfl (by first | rw [if_neg hq0]; rfl | rw [if_pos hq0]; rfl) rfl
    · have hq0 : q = 0 := (nI_eq (b := 0) (by omega) (by decide)).mp (Decidable.not_not.mp h130)
      refine ex_iload dX9_when_133 rfl rfl ?_
      refine ex_goto (q := 140) dX9_when_135 rfl ?_
      exact ex_iret dX9_when_140 rfl (by first | rw [if_neg hq0]; rfl | rw [if_pos hq0]; rfl) rfl
  | succ r ih =>
    intro k x p σ hk hp hM hor
    have hT : tn_ok T := hG.1
    have hX : gx_ok X := hG.2.1
    have hP : gt_ok P := hG.2.2.1
    have hI : gi_ok T (gx_n X) Im := hG.2.2.2.1
    have hS : gs_ok S := hG.2.2.2.2.1
    have hw : tn_w T < gx_n X := hG.2.2.2.2.2
    have hL := hT.1
    have hw6 := hT.2.1
    have hu := tn_u_lt hT
    have hX6 := hX.2.1
    have hP6 := hP.1
    have ho7 := hor.2.1
    obtain ⟨σ1, hOa, hR1, hs1⟩ := k_worthBehind hX hT hw hM.1 hM.2.1 hor hos hl (show k ≤ os.length by omega)
    have hM1 := MG.thinkL (G := (T, X, P, Im, S)) hM hR1 ⟨fun s hs => hs1.1 s (by omega), fun r hr hr2 k => hs1.2 r (by omega) (by omega) k⟩
    have hs12 : sm σ σ1 27 46 42 62 := hs1.sm (by omega) (by omega) (by omega)
    obtain ⟨g, hg⟩ : ∃ g, g = wb T X l os k := ⟨_, rfl⟩
    rw [← hg] at hOa
    have e1 : wb_go T X l os (r + 1) k p = wb_go T X l os r (k + 1) (if p.1 < g then (g, k) else p) := by rw [wb_go, ← hg]
    rw [e1]
    have hp2 : (if p.1 < g then (g, k) else p).2 ≤ 7 := by split <;> omega
    obtain ⟨σ', hE, hM4, hs4⟩ := ih (k + 1) (some (.int g)) (if p.1 < g then (g, k) else p) σ1 (by omega) hp2 hM1 (RRsl2 hor hs1)
    refine ⟨σ', ?_, hM4, hs12.tr hs4⟩
    by_cases c2 : p.1 < g
    · simp only [if_pos c2] at hE ⊢
      refine ex_iload dX9_when_73 rfl rfl ?_
      refine ex_aload_n dX9_when_75 rfl rfl ?_
      refine ex_getI (s := 44) (x := nI os.length) dX9_when_76 rfl qp_8_235 rfl rfl (hor.1) ?_
      refine ex_icmp_gt (q := 129) (q2 := 82) dX9_when_79 rfl rfl (fun hh => absurd hh (nI_nlt (a := os.length) (b := k) (by omega) (by omega))) (fun _ => ?_)
      refine ex_aload_n dX9_when_82 rfl rfl ?_
      refine ex_iload_n dX9_when_83 rfl rfl ?_
      refine ex_iload dX9_when_84 rfl rfl ?_
      refine ex_callV (a := 55) (rest := []) dX9_when_86 rfl qp_8_265 rfl rfl rfl rfl rfl (Nat.le_of_ble_eq_true rfl) (hOa) (Nat.le_of_ble_eq_true rfl) ?_
      show Ex qm_lay _ mX9_when 89 [some (.ref 55), some (.int (nI l)), some (.int sh), some (.int (nI q)), some (.int 0), some (.int (nI p.2)), some (.int p.1), some (.int (nI k)), x] [.int g] σ1 _ _
      refine ex_istore (ls' := [some (.ref 55), some (.int (nI l)), some (.int sh), some (.int (nI q)), some (.int 0), some (.int (nI p.2)), some (.int p.1), some (.int (nI k)), some (.int g)]) dX9_when_89 rfl (Nat.le_of_ble_eq_true rfl) rfl rfl ?_
      refine ex_iload dX9_when_91 rfl rfl ?_
      refine ex_iload dX9_when_93 rfl rfl ?_
      refine ex_icmp_le (q := 103) (q2 := 98) dX9_when_95 rfl rfl (fun hh => absurd hh (Int32.not_le.mpr c2)) (fun _ => ?_)
      refine ex_iload dX9_when_98 rfl rfl ?_
      refine ex_goto (q := 105) dX9_when_100 rfl ?_
      refine ex_istore (ls' := [some (.ref 55), some (.int (nI l)), some (.int sh), some (.int (nI q)), some (.int 0), some (.int (nI k)), some (.int p.1), some (.int (nI k)), some (.int g)]) dX9_when_105 rfl (Nat.le_of_ble_eq_true rfl) rfl rfl ?_
      refine ex_iload dX9_when_107 rfl rfl ?_
      refine ex_iload dX9_when_109 rfl rfl ?_
      refine ex_icmp_le (q := 119) (q2 := 114) dX9_when_111 rfl rfl (fun hh => absurd hh (Int32.not_le.mpr c2)) (fun _ => ?_)
      refine ex_iload dX9_when_114 rfl rfl ?_
      refine ex_goto (q := 121) dX9_when_116 rfl ?_
      refine ex_istore (ls' := [some (.ref 55), some (.int (nI l)), some (.int sh), some (.int (nI q)), some (.int 0), some (.int (nI k)), some (.int g), some (.int (nI k)), some (.int g)]) dX9_when_121 rfl (Nat.le_of_ble_eq_true rfl) rfl rfl ?_
      refine ex_iinc (y := nI (k + 1)) (ls' := [some (.ref 55), some (.int (nI l)), some (.int sh), some (.int (nI q)), some (.int 0), some (.int (nI k)), some (.int g), some (.int (nI (k + 1))), some (.int g)]) dX9_when_123 rfl rfl rfl (nI_add k 1) rfl ?_
      refine ex_goto (q := 73) dX9_when_126 rfl ?_
      exact hE
    · simp only [if_neg c2] at hE ⊢
      refine ex_iload dX9_when_73 rfl rfl ?_
      refine ex_aload_n dX9_when_75 rfl rfl ?_
      refine ex_getI (s := 44) (x := nI os.length) dX9_when_76 rfl qp_8_235 rfl rfl (hor.1) ?_
      refine ex_icmp_gt (q := 129) (q2 := 82) dX9_when_79 rfl rfl (fun hh => absurd hh (nI_nlt (a := os.length) (b := k) (by omega) (by omega))) (fun _ => ?_)
      refine ex_aload_n dX9_when_82 rfl rfl ?_
      refine ex_iload_n dX9_when_83 rfl rfl ?_
      refine ex_iload dX9_when_84 rfl rfl ?_
      refine ex_callV (a := 55) (rest := []) dX9_when_86 rfl qp_8_265 rfl rfl rfl rfl rfl (Nat.le_of_ble_eq_true rfl) (hOa) (Nat.le_of_ble_eq_true rfl) ?_
      show Ex qm_lay _ mX9_when 89 [some (.ref 55), some (.int (nI l)), some (.int sh), some (.int (nI q)), some (.int 0), some (.int (nI p.2)), some (.int p.1), some (.int (nI k)), x] [.int g] σ1 _ _
      refine ex_istore (ls' := [some (.ref 55), some (.int (nI l)), some (.int sh), some (.int (nI q)), some (.int 0), some (.int (nI p.2)), some (.int p.1), some (.int (nI k)), some (.int g)]) dX9_when_89 rfl (Nat.le_of_ble_eq_true rfl) rfl rfl ?_
      refine ex_iload dX9_when_91 rfl rfl ?_
      refine ex_iload dX9_when_93 rfl rfl ?_
      refine ex_icmp_le (q := 103) (q2 := 98) dX9_when_95 rfl rfl (fun _ => ?_) (fun hh => absurd (Int32.not_lt.mp c2) hh)
      refine ex_iload dX9_when_103 rfl rfl ?_
      refine ex_istore (ls' := [some (.ref 55), some (.int (nI l)), some (.int sh), some (.int (nI q)), some (.int 0), some (.int (nI p.2)), some (.int p.1), some (.int (nI k)), some (.int g)]) dX9_when_105 rfl (Nat.le_of_ble_eq_true rfl) rfl rfl ?_
      refine ex_iload dX9_when_107 rfl rfl ?_
      refine ex_iload dX9_when_109 rfl rfl ?_
      refine ex_icmp_le (q := 119) (q2 := 114) dX9_when_111 rfl rfl (fun _ => ?_) (fun hh => absurd (Int32.not_lt.mp c2) hh)
      refine ex_iload dX9_when_119 rfl rfl ?_
      refine ex_istore (ls' := [some (.ref 55), some (.int (nI l)), some (.int sh), some (.int (nI q)), some (.int 0), some (.int (nI p.2)), some (.int p.1), some (.int (nI k)), some (.int g)]) dX9_when_121 rfl (Nat.le_of_ble_eq_true rfl) rfl rfl ?_
      refine ex_iinc (y := nI (k + 1)) (ls' := [some (.ref 55), some (.int (nI l)), some (.int sh), some (.int (nI q)), some (.int 0), some (.int (nI p.2)), some (.int p.1), some (.int (nI (k + 1))), some (.int g)]) dX9_when_123 rfl rfl rfl (nI_add k 1) rfl ?_
      refine ex_goto (q := 73) dX9_when_126 rfl ?_
      exact hE

set_option maxHeartbeats 2000000 in
theorem j_when {T : tn_T} {X : gx_T} {P : gt_T} {Im : gi_T} {S : gs_T} (hG : gg_ok (T, X, P, Im, S)) (l s w : Int32) : J mX8_when mX9_when [.int l, .int s, .int w] (T, X, P, Im, S) := by
  have hT : tn_ok T := hG.1
  have hX : gx_ok X := hG.2.1
  have hP : gt_ok P := hG.2.2.1
  have hI : gi_ok T (gx_n X) Im := hG.2.2.2.1
  have hS : gs_ok S := hG.2.2.2.2.1
  have hw : tn_w T < gx_n X := hG.2.2.2.2.2
  have hL := hT.1
  have hw6 := hT.2.1
  have hu := tn_u_lt hT
  have hX6 := hX.2.1
  have hP6 := hP.1
  have hnb := tn_nb_bits hT
  have h128 : 2 ^ tn_L T ≤ 128 := Nat.pow_le_pow_right (n := 2) (by omega) hL
  have hnb7 : tn_nb T < 128 := by omega
  by_cases c0 : tn_has T l = true
  · obtain ⟨l, hl, rfl⟩ := tn_has_of hT c0
    have hbits7 := tn_cl_lt (j := l) hnb7
    have hbits : tn_cl (tn_nb T) l < 2 ^ tn_L T := Nat.lt_of_le_of_lt (tn_cl_le _ _) hnb.1
    by_cases c9 : (tn_u T).testBit l = true
    · refine J.q hG (.int (-3)) (fun σ hC => ?_) (fun σ hM => ?_)
      · have h : TR σ 9 18 T := hC.1
        refine Ok.of (ls := [some (.ref 54), some (.int (nI l)), some (.int s), some (.int w), none, none, none, none, none, none]) (Nat.le_of_ble_eq_true rfl) rfl ?_
        refine ex_aload_n dX8_when_0 rfl rfl ?_
        refine ex_getR (b := 22) dX8_when_1 rfl qp_7_10 rfl rfl ?_
        refine ex_iload_n dX8_when_4 rfl rfl ?_
        refine ex_callV (a := 22) (rest := []) dX8_when_5 rfl qp_7_95 rfl rfl rfl rfl rfl (Nat.le_of_ble_eq_true rfl) (c_hasLot_0n hT h (by omega)) (Nat.le_of_ble_eq_true rfl) ?_
        show Ex qm_lay _ mX8_when 8 [some (.ref 54), some (.int (nI l)), some (.int s), some (.int w), none, none, none, none, none, none] [.int 1] σ _ _
        refine ex_if_ne (q := 14) (q2 := 11) dX8_when_8 rfl rfl (fun _ => ?_) (fun hh => absurd (by decide) hh)
        refine ex_aload_n dX8_when_14 rfl rfl ?_
        refine ex_getR (b := 22) dX8_when_15 rfl qp_7_10 rfl rfl ?_
        refine ex_iload_n dX8_when_18 rfl rfl ?_
        refine ex_callV (a := 22) (rest := []) dX8_when_19 rfl qp_7_127 rfl rfl rfl rfl rfl (Nat.le_of_ble_eq_true rfl) (c_isBuilt_0n hT h (by omega)) (Nat.le_of_ble_eq_true rfl) ?_
        show Ex qm_lay _ mX8_when 22 [some (.ref 54), some (.int (nI l)), some (.int s), some (.int w), none, none, none, none, none, none] [.int (b2i (Nat.testBit (tn_u T) l))] σ _ _
        refine ex_if_eq (q := 28) (q2 := 25) dX8_when_22 rfl rfl (fun hh => absurd hh (b2i_n0.mpr (c9))) (fun _ => ?_)
        refine ex_bipush (x := (-3)) dX8_when_25 rfl rfl ?_
        exact ex_iret dX8_when_27 rfl rfl rfl
      · have h : MR σ T := hM.1
        refine Ok.of (ls := [some (.ref 55), some (.int (nI l)), some (.int s), some (.int w), none, none, none, none, none]) (Nat.le_of_ble_eq_true rfl) rfl ?_
        refine ex_aload_n dX9_when_0 rfl rfl ?_
        refine ex_iload_n dX9_when_1 rfl rfl ?_
        refine ex_callV (a := 55) (rest := []) dX9_when_2 rfl qp_8_85 rfl rfl rfl rfl rfl (Nat.le_of_ble_eq_true rfl) (k_isLot_n hT h (by omega)) (Nat.le_of_ble_eq_true rfl) ?_
        show Ex qm_lay _ mX9_when 5 [some (.ref 55), some (.int (nI l)), some (.int s), some (.int w), none, none, none, none, none] [.int 1] σ _ _
        refine ex_if_ne (q := 11) (q2 := 8) dX9_when_5 rfl rfl (fun _ => ?_) (fun hh => absurd (by decide) hh)
        refine ex_aload_n dX9_when_11 rfl rfl ?_
        refine ex_iload_n dX9_when_12 rfl rfl ?_
        refine ex_callV (a := 55) (rest := []) dX9_when_13 rfl qp_8_89 rfl rfl rfl rfl rfl (Nat.le_of_ble_eq_true rfl) (k_isBuilt hT h (by omega)) (Nat.le_of_ble_eq_true rfl) ?_
        show Ex qm_lay _ mX9_when 16 [some (.ref 55), some (.int (nI l)), some (.int s), some (.int w), none, none, none, none, none] [.int (b2i (Nat.testBit (tn_u T) l))] σ _ _
        refine ex_if_eq (q := 22) (q2 := 19) dX9_when_16 rfl rfl (fun hh => absurd hh (b2i_n0.mpr (c9))) (fun _ => ?_)
        refine ex_bipush (x := (-3)) dX9_when_19 rfl rfl ?_
        exact ex_iret dX9_when_21 rfl rfl rfl
    · by_cases c1 : gs_ro S s (tn_cl (tn_nb T) l) = 0
      · obtain ⟨s, os, hs4, rfl, hso⟩ := gs_ro_0 c1
        have hso2 := so_of hbits7 hso
        have hos : ∀ l ∈ os, l < tn_L T := fun l2 hl2 => by
          obtain ⟨g1, g2⟩ := hso2.2.2.1 l2 hl2
          exact bit_lt hbits g2
        have ho7 : os.length ≤ 7 := by rw [hso2.1]; exact tn_pc_7 _ hbits7
        have hne : ¬ S.1 s = -1 := fun z => by rw [gs_ro_t hs4, if_pos z] at c1; exact absurd c1 (by decide)
        by_cases c2 : tn_in w 0 1 = true
        · obtain ⟨q, hq, rfl⟩ := tn_in_of (n := 1) (by decide) c2
          have ePM : (wb_go T X l os (os.length + 1) 0 (-2147483648, 0)) = (wb_go T X l os os.length 1 (wb T X l os 0, 0)) := by rw [wb_go, if_pos (wb_min T X l os 0)]
          refine J.u (.int (if q = 0 then nI (wb_go T X l os os.length 1 (wb T X l os 0, 0)).2 else (wb_go T X l os os.length 1 (wb T X l os 0, 0)).1)) (T, X, P, Im, S) hG (fun σ hC => ?_) (fun σ hM => ?_)
          · have h : TR σ 9 18 T := hC.1
            obtain ⟨σo, hOo, hord, hso1⟩ := c_refusalOfOrder hG hC (nI s) hbits7
            have hord := hord s os rfl hs4 hso hne
            have hCo := CG.aux hG hC (hso1.wid (by omega) (by omega))
            have ho : TR σo 9 18 T := hCo.1
            obtain ⟨σ1, hO1, hR1, hs1⟩ := c_becomes_10 hT ho
            obtain ⟨σ', hE, hC4, hs4⟩ := l_whenC hG (nI s) hl hq hos (os.length + 1) 0 none none rfl (-2147483648, 0) σ1 (by omega) (by decide) (CG.think hG hCo hs1) (by rw [List.take_zero]; exact hR1) (hord.sm hs1 (by omega) (by omega))
            rw [ePM] at hE
            refine ⟨σ', ?_, hC4, (hso1.wid (by omega) (by omega)).tr ((hs1.wid (by omega) (by omega)).tr hs4)⟩
            refine Ok.of (ls := [some (.ref 54), some (.int (nI l)), some (.int (nI s)), some (.int (nI q)), none, none, none, none, none, none]) (Nat.le_of_ble_eq_true rfl) rfl ?_
            refine ex_aload_n dX8_when_0 rfl rfl ?_
            refine ex_getR (b := 22) dX8_when_1 rfl qp_7_10 rfl rfl ?_
            refine ex_iload_n dX8_when_4 rfl rfl ?_
            refine ex_callV (a := 22) (rest := []) dX8_when_5 rfl qp_7_95 rfl rfl rfl rfl rfl (Nat.le_of_ble_eq_true rfl) (c_hasLot_0n hT h (by omega)) (Nat.le_of_ble_eq_true rfl) ?_
            show Ex qm_lay _ mX8_when 8 [some (.ref 54), some (.int (nI l)), some (.int (nI s)), some (.int (nI q)), none, none, none, none, none, none] [.int 1] σ _ _
            refine ex_if_ne (q := 14) (q2 := 11) dX8_when_8 rfl rfl (fun _ => ?_) (fun hh => absurd (by decide) hh)
            refine ex_aload_n dX8_when_14 rfl rfl ?_
            refine ex_getR (b := 22) dX8_when_15 rfl qp_7_10 rfl rfl ?_
            refine ex_iload_n dX8_when_18 rfl rfl ?_
            refine ex_callV (a := 22) (rest := []) dX8_when_19 rfl qp_7_127 rfl rfl rfl rfl rfl (Nat.le_of_ble_eq_true rfl) (c_isBuilt_0n hT h (by omega)) (Nat.le_of_ble_eq_true rfl) ?_
            show Ex qm_lay _ mX8_when 22 [some (.ref 54), some (.int (nI l)), some (.int (nI s)), some (.int (nI q)), none, none, none, none, none, none] [.int (b2i (Nat.testBit (tn_u T) l))] σ _ _
            refine ex_if_eq (q := 28) (q2 := 25) dX8_when_22 rfl rfl (fun _ => ?_) (fun hh => absurd (b2i_0.mpr (by simpa using c9)) hh)
            refine ex_aload_n dX8_when_28 rfl rfl ?_
            refine ex_iload_n dX8_when_29 rfl rfl ?_
            refine ex_aload_n dX8_when_30 rfl rfl ?_
            refine ex_getR (b := 22) dX8_when_31 rfl qp_7_10 rfl rfl ?_
            refine ex_callV (a := 22) (rest := [.int (nI s), .ref 54]) dX8_when_34 rfl qp_7_190 rfl rfl rfl rfl rfl (Nat.le_of_ble_eq_true rfl) (c_unbuiltBits_0 hT h) (Nat.le_of_ble_eq_true rfl) ?_
            show Ex qm_lay _ mX8_when 37 [some (.ref 54), some (.int (nI l)), some (.int (nI s)), some (.int (nI q)), none, none, none, none, none, none] [.int (nI (tn_nb T)), .int (nI s), .ref 54] σ _ _
            refine ex_iconst (x := 1) dX8_when_37 rfl rfl ?_
            refine ex_iload_n dX8_when_38 rfl rfl ?_
            refine ex_ishl (z := nI (2 ^ l)) dX8_when_39 rfl (nI_1shl (by omega)) ?_
            refine ex_iconst (x := (-1)) dX8_when_40 rfl rfl ?_
            refine ex_ixor (z := (nI (2 ^ l)) ^^^ (-1)) dX8_when_41 rfl (rfl) ?_
            refine ex_iand (z := nI (tn_cl (tn_nb T) l)) dX8_when_42 rfl (tn_cls (by omega) (by omega)) ?_
            refine ex_callV (a := 54) (rest := []) dX8_when_43 rfl qp_7_193 rfl rfl rfl rfl rfl (Nat.le_of_ble_eq_true rfl) ((by rw [c1] at hOo; exact hOo)) (Nat.le_of_ble_eq_true rfl) ?_
            show Ex qm_lay _ mX8_when 46 [some (.ref 54), some (.int (nI l)), some (.int (nI s)), some (.int (nI q)), none, none, none, none, none, none] [.int 0] σo _ _
            refine ex_istore (ls' := [some (.ref 54), some (.int (nI l)), some (.int (nI s)), some (.int (nI q)), some (.int 0), none, none, none, none, none]) dX8_when_46 rfl (Nat.le_of_ble_eq_true rfl) rfl rfl ?_
            refine ex_iload dX8_when_48 rfl rfl ?_
            refine ex_if_eq (q := 56) (q2 := 53) dX8_when_50 rfl rfl (fun _ => ?_) (fun hh => absurd (by decide) hh)
            refine ex_iload_n dX8_when_56 rfl rfl ?_
            refine ex_if_lt (q := 65) (q2 := 60) dX8_when_57 rfl rfl (fun hh => absurd hh (nI_pos (by omega))) (fun _ => ?_)
            refine ex_iload_n dX8_when_60 rfl rfl ?_
            refine ex_iconst (x := 1) dX8_when_61 rfl rfl ?_
            refine ex_icmp_le (q := 68) (q2 := 65) dX8_when_62 rfl rfl (fun _ => ?_) (fun hh => absurd (nI_le (a := q) (b := 1) (by omega) (by omega)) hh)
            refine ex_ldc (x := (-2147483648)) dX8_when_68 rfl qp_7_213 ?_
            refine ex_istore (ls' := [some (.ref 54), some (.int (nI l)), some (.int (nI s)), some (.int (nI q)), some (.int 0), some (.int (-2147483648)), none, none, none, none]) dX8_when_70 rfl (Nat.le_of_ble_eq_true rfl) rfl rfl ?_
            refine ex_iconst (x := 0) dX8_when_72 rfl rfl ?_
            refine ex_istore (ls' := [some (.ref 54), some (.int (nI l)), some (.int (nI s)), some (.int (nI q)), some (.int 0), some (.int (-2147483648)), some (.int 0), none, none, none]) dX8_when_73 rfl (Nat.le_of_ble_eq_true rfl) rfl rfl ?_
            refine ex_aload_n dX8_when_75 rfl rfl ?_
            refine ex_getR (b := 28) dX8_when_76 rfl qp_7_16 rfl rfl ?_
            refine ex_aload_n dX8_when_79 rfl rfl ?_
            refine ex_getR (b := 22) dX8_when_80 rfl qp_7_10 rfl rfl ?_
            refine ex_callV (a := 28) (rest := []) dX8_when_83 rfl qp_7_172 rfl rfl rfl rfl rfl (Nat.le_of_ble_eq_true rfl) (hO1) (Nat.le_of_ble_eq_true rfl) ?_
            show Ex qm_lay _ mX8_when 86 [some (.ref 54), some (.int (nI l)), some (.int (nI s)), some (.int (nI q)), some (.int 0), some (.int (-2147483648)), some (.int 0), none, none, none] [] σ1 _ _
            refine ex_iconst (x := 0) dX8_when_86 rfl rfl ?_
            refine ex_istore (ls' := [some (.ref 54), some (.int (nI l)), some (.int (nI s)), some (.int (nI q)), some (.int 0), some (.int (-2147483648)), some (.int 0), some (.int 0), none, none]) dX8_when_87 rfl (Nat.le_of_ble_eq_true rfl) rfl rfl ?_
            exact hE
          · have h : MR σ T := hM.1
            obtain ⟨σo, hOo, hord, hso1⟩ := k_readsRow hG hM (nI s) hbits
            have hord := hord s os rfl hs4 hso hne
            have hMo := MG.aux hM (hso1.wid (by omega) (by omega))
            have ho : MR σo T := hMo.1
            obtain ⟨σ1, hO1, hR1, hs1⟩ := k_worthBehind hX hT hw ho hMo.2.1 hord hos hl (Nat.zero_le os.length)
            have hM1 := MG.thinkL (G := (T, X, P, Im, S)) hMo hR1 ⟨fun s hs => hs1.1 s (by omega), fun r hr hr2 k => hs1.2 r (by omega) (by omega) k⟩
            obtain ⟨σ', hE, hM4, hs4⟩ := l_whenM hG (nI s) hl hq hos os.length 1 none (wb T X l os 0, 0) σ1 (by omega) (Nat.zero_le 7) hM1 (RRsl2 hord hs1)
            refine ⟨σ', ?_, hM4, (hso1.wid (by omega) (by omega)).tr ((hs1.sm (by omega) (by omega) (by omega)).tr hs4)⟩
            refine Ok.of (ls := [some (.ref 55), some (.int (nI l)), some (.int (nI s)), some (.int (nI q)), none, none, none, none, none]) (Nat.le_of_ble_eq_true rfl) rfl ?_
            refine ex_aload_n dX9_when_0 rfl rfl ?_
            refine ex_iload_n dX9_when_1 rfl rfl ?_
            refine ex_callV (a := 55) (rest := []) dX9_when_2 rfl qp_8_85 rfl rfl rfl rfl rfl (Nat.le_of_ble_eq_true rfl) (k_isLot_n hT h (by omega)) (Nat.le_of_ble_eq_true rfl) ?_
            show Ex qm_lay _ mX9_when 5 [some (.ref 55), some (.int (nI l)), some (.int (nI s)), some (.int (nI q)), none, none, none, none, none] [.int 1] σ _ _
            refine ex_if_ne (q := 11) (q2 := 8) dX9_when_5 rfl rfl (fun _ => ?_) (fun hh => absurd (by decide) hh)
            refine ex_aload_n dX9_when_11 rfl rfl ?_
            refine ex_iload_n dX9_when_12 rfl rfl ?_
            refine ex_callV (a := 55) (rest := []) dX9_when_13 rfl qp_8_89 rfl rfl rfl rfl rfl (Nat.le_of_ble_eq_true rfl) (k_isBuilt hT h (by omega)) (Nat.le_of_ble_eq_true rfl) ?_
            show Ex qm_lay _ mX9_when 16 [some (.ref 55), some (.int (nI l)), some (.int (nI s)), some (.int (nI q)), none, none, none, none, none] [.int (b2i (Nat.testBit (tn_u T) l))] σ _ _
            refine ex_if_eq (q := 22) (q2 := 19) dX9_when_16 rfl rfl (fun _ => ?_) (fun hh => absurd (b2i_0.mpr (by simpa using c9)) hh)
            refine ex_aload_n dX9_when_22 rfl rfl ?_
            refine ex_iload_n dX9_when_23 rfl rfl ?_
            refine ex_aload_n dX9_when_24 rfl rfl ?_
            refine ex_callV (a := 55) (rest := [.int (nI s), .ref 55]) dX9_when_25 rfl qp_8_244 rfl rfl rfl rfl rfl (Nat.le_of_ble_eq_true rfl) (k_notBuilt hT h) (Nat.le_of_ble_eq_true rfl) ?_
            show Ex qm_lay _ mX9_when 28 [some (.ref 55), some (.int (nI l)), some (.int (nI s)), some (.int (nI q)), none, none, none, none, none] [.int (nI (tn_nb T)), .int (nI s), .ref 55] σ _ _
            refine ex_iconst (x := 1) dX9_when_28 rfl rfl ?_
            refine ex_iload_n dX9_when_29 rfl rfl ?_
            refine ex_ishl (z := nI (2 ^ l)) dX9_when_30 rfl (nI_1shl (by omega)) ?_
            refine ex_iconst (x := (-1)) dX9_when_31 rfl rfl ?_
            refine ex_ixor (z := (nI (2 ^ l)) ^^^ (-1)) dX9_when_32 rfl (rfl) ?_
            refine ex_iand (z := nI (tn_cl (tn_nb T) l)) dX9_when_33 rfl (tn_cls (by omega) (by omega)) ?_
            refine ex_callV (a := 55) (rest := []) dX9_when_34 rfl qp_8_262 rfl rfl rfl rfl rfl (Nat.le_of_ble_eq_true rfl) ((by rw [c1] at hOo; exact hOo)) (Nat.le_of_ble_eq_true rfl) ?_
            show Ex qm_lay _ mX9_when 37 [some (.ref 55), some (.int (nI l)), some (.int (nI s)), some (.int (nI q)), none, none, none, none, none] [.int 0] σo _ _
            refine ex_istore (ls' := [some (.ref 55), some (.int (nI l)), some (.int (nI s)), some (.int (nI q)), some (.int 0), none, none, none, none]) dX9_when_37 rfl (Nat.le_of_ble_eq_true rfl) rfl rfl ?_
            refine ex_iload dX9_when_39 rfl rfl ?_
            refine ex_if_eq (q := 47) (q2 := 44) dX9_when_41 rfl rfl (fun _ => ?_) (fun hh => absurd (by decide) hh)
            refine ex_iload_n dX9_when_47 rfl rfl ?_
            refine ex_iconst (x := 0) dX9_when_48 rfl rfl ?_
            refine ex_iconst (x := 1) dX9_when_49 rfl rfl ?_
            refine ex_callS (rest := []) dX9_when_50 rfl qp_8_81 rfl rfl rfl (Nat.le_of_ble_eq_true rfl) (k_in _ _ _ _) (Nat.le_of_ble_eq_true rfl) ?_
            show Ex qm_lay _ mX9_when 53 [some (.ref 55), some (.int (nI l)), some (.int (nI s)), some (.int (nI q)), some (.int 0), none, none, none, none] [.int (b2i (tn_in (nI q) 0 1))] σo _ _
            refine ex_if_ne (q := 59) (q2 := 56) dX9_when_53 rfl rfl (fun _ => ?_) (fun hh => absurd (b2i_n0.mpr (c2)) hh)
            refine ex_iconst (x := 0) dX9_when_59 rfl rfl ?_
            refine ex_istore (ls' := [some (.ref 55), some (.int (nI l)), some (.int (nI s)), some (.int (nI q)), some (.int 0), some (.int 0), none, none, none]) dX9_when_60 rfl (Nat.le_of_ble_eq_true rfl) rfl rfl ?_
            refine ex_aload_n dX9_when_62 rfl rfl ?_
            refine ex_iload_n dX9_when_63 rfl rfl ?_
            refine ex_iconst (x := 0) dX9_when_64 rfl rfl ?_
            refine ex_callV (a := 55) (rest := []) dX9_when_65 rfl qp_8_265 rfl rfl rfl rfl rfl (Nat.le_of_ble_eq_true rfl) (hO1) (Nat.le_of_ble_eq_true rfl) ?_
            show Ex qm_lay _ mX9_when 68 [some (.ref 55), some (.int (nI l)), some (.int (nI s)), some (.int (nI q)), some (.int 0), some (.int 0), none, none, none] [.int (wb T X l os 0)] σ1 _ _
            refine ex_istore (ls' := [some (.ref 55), some (.int (nI l)), some (.int (nI s)), some (.int (nI q)), some (.int 0), some (.int 0), some (.int (wb T X l os 0)), none, none]) dX9_when_68 rfl (Nat.le_of_ble_eq_true rfl) rfl rfl ?_
            refine ex_iconst (x := 1) dX9_when_70 rfl rfl ?_
            refine ex_istore (ls' := [some (.ref 55), some (.int (nI l)), some (.int (nI s)), some (.int (nI q)), some (.int 0), some (.int 0), some (.int (wb T X l os 0)), some (.int 1), none]) dX9_when_71 rfl (Nat.le_of_ble_eq_true rfl) rfl rfl ?_
            exact hE
        · refine J.u (.int (-7)) (T, X, P, Im, S) hG (fun σ hC => ?_) (fun σ hM => ?_)
          · have h : TR σ 9 18 T := hC.1
            obtain ⟨σo, hOo, hord, hso1⟩ := c_refusalOfOrder hG hC (nI s) hbits7
            have hord := hord s os rfl hs4 hso hne
            have hCo := CG.aux hG hC (hso1.wid (by omega) (by omega))
            have ho : TR σo 9 18 T := hCo.1
            refine ⟨σo, ?_, hCo, hso1.wid (by omega) (by omega)⟩
            refine Ok.of (ls := [some (.ref 54), some (.int (nI l)), some (.int (nI s)), some (.int w), none, none, none, none, none, none]) (Nat.le_of_ble_eq_true rfl) rfl ?_
            refine ex_aload_n dX8_when_0 rfl rfl ?_
            refine ex_getR (b := 22) dX8_when_1 rfl qp_7_10 rfl rfl ?_
            refine ex_iload_n dX8_when_4 rfl rfl ?_
            refine ex_callV (a := 22) (rest := []) dX8_when_5 rfl qp_7_95 rfl rfl rfl rfl rfl (Nat.le_of_ble_eq_true rfl) (c_hasLot_0n hT h (by omega)) (Nat.le_of_ble_eq_true rfl) ?_
            show Ex qm_lay _ mX8_when 8 [some (.ref 54), some (.int (nI l)), some (.int (nI s)), some (.int w), none, none, none, none, none, none] [.int 1] σ _ _
            refine ex_if_ne (q := 14) (q2 := 11) dX8_when_8 rfl rfl (fun _ => ?_) (fun hh => absurd (by decide) hh)
            refine ex_aload_n dX8_when_14 rfl rfl ?_
            refine ex_getR (b := 22) dX8_when_15 rfl qp_7_10 rfl rfl ?_
            refine ex_iload_n dX8_when_18 rfl rfl ?_
            refine ex_callV (a := 22) (rest := []) dX8_when_19 rfl qp_7_127 rfl rfl rfl rfl rfl (Nat.le_of_ble_eq_true rfl) (c_isBuilt_0n hT h (by omega)) (Nat.le_of_ble_eq_true rfl) ?_
            show Ex qm_lay _ mX8_when 22 [some (.ref 54), some (.int (nI l)), some (.int (nI s)), some (.int w), none, none, none, none, none, none] [.int (b2i (Nat.testBit (tn_u T) l))] σ _ _
            refine ex_if_eq (q := 28) (q2 := 25) dX8_when_22 rfl rfl (fun _ => ?_) (fun hh => absurd (b2i_0.mpr (by simpa using c9)) hh)
            refine ex_aload_n dX8_when_28 rfl rfl ?_
            refine ex_iload_n dX8_when_29 rfl rfl ?_
            refine ex_aload_n dX8_when_30 rfl rfl ?_
            refine ex_getR (b := 22) dX8_when_31 rfl qp_7_10 rfl rfl ?_
            refine ex_callV (a := 22) (rest := [.int (nI s), .ref 54]) dX8_when_34 rfl qp_7_190 rfl rfl rfl rfl rfl (Nat.le_of_ble_eq_true rfl) (c_unbuiltBits_0 hT h) (Nat.le_of_ble_eq_true rfl) ?_
            show Ex qm_lay _ mX8_when 37 [some (.ref 54), some (.int (nI l)), some (.int (nI s)), some (.int w), none, none, none, none, none, none] [.int (nI (tn_nb T)), .int (nI s), .ref 54] σ _ _
            refine ex_iconst (x := 1) dX8_when_37 rfl rfl ?_
            refine ex_iload_n dX8_when_38 rfl rfl ?_
            refine ex_ishl (z := nI (2 ^ l)) dX8_when_39 rfl (nI_1shl (by omega)) ?_
            refine ex_iconst (x := (-1)) dX8_when_40 rfl rfl ?_
            refine ex_ixor (z := (nI (2 ^ l)) ^^^ (-1)) dX8_when_41 rfl (rfl) ?_
            refine ex_iand (z := nI (tn_cl (tn_nb T) l)) dX8_when_42 rfl (tn_cls (by omega) (by omega)) ?_
            refine ex_callV (a := 54) (rest := []) dX8_when_43 rfl qp_7_193 rfl rfl rfl rfl rfl (Nat.le_of_ble_eq_true rfl) ((by rw [c1] at hOo; exact hOo)) (Nat.le_of_ble_eq_true rfl) ?_
            show Ex qm_lay _ mX8_when 46 [some (.ref 54), some (.int (nI l)), some (.int (nI s)), some (.int w), none, none, none, none, none, none] [.int 0] σo _ _
            refine ex_istore (ls' := [some (.ref 54), some (.int (nI l)), some (.int (nI s)), some (.int w), some (.int 0), none, none, none, none, none]) dX8_when_46 rfl (Nat.le_of_ble_eq_true rfl) rfl rfl ?_
            refine ex_iload dX8_when_48 rfl rfl ?_
            refine ex_if_eq (q := 56) (q2 := 53) dX8_when_50 rfl rfl (fun _ => ?_) (fun hh => absurd (by decide) hh)
            refine ex_iload_n dX8_when_56 rfl rfl ?_
            refine ex_if_lt (q := 65) (q2 := 60) dX8_when_57 rfl rfl (fun h57 => ?_) (fun h57 => ?_)
            · refine ex_bipush (x := (-7)) dX8_when_65 rfl rfl ?_
              exact ex_iret dX8_when_67 rfl rfl rfl
            · refine ex_iload_n dX8_when_60 rfl rfl ?_
              refine ex_iconst (x := 1) dX8_when_61 rfl rfl ?_
              refine ex_icmp_le (q := 68) (q2 := 65) dX8_when_62 rfl rfl (fun h62 => ?_) (fun h62 => ?_)
              · exact absurd (decide_eq_true ⟨Int32.not_lt.mp h57, h62⟩) c2
              · refine ex_bipush (x := (-7)) dX8_when_65 rfl rfl ?_
                exact ex_iret dX8_when_67 rfl rfl rfl
          · have h : MR σ T := hM.1
            obtain ⟨σo, hOo, hord, hso1⟩ := k_readsRow hG hM (nI s) hbits
            have hord := hord s os rfl hs4 hso hne
            have hMo := MG.aux hM (hso1.wid (by omega) (by omega))
            have ho : MR σo T := hMo.1
            refine ⟨σo, ?_, hMo, hso1.wid (by omega) (by omega)⟩
            refine Ok.of (ls := [some (.ref 55), some (.int (nI l)), some (.int (nI s)), some (.int w), none, none, none, none, none]) (Nat.le_of_ble_eq_true rfl) rfl ?_
            refine ex_aload_n dX9_when_0 rfl rfl ?_
            refine ex_iload_n dX9_when_1 rfl rfl ?_
            refine ex_callV (a := 55) (rest := []) dX9_when_2 rfl qp_8_85 rfl rfl rfl rfl rfl (Nat.le_of_ble_eq_true rfl) (k_isLot_n hT h (by omega)) (Nat.le_of_ble_eq_true rfl) ?_
            show Ex qm_lay _ mX9_when 5 [some (.ref 55), some (.int (nI l)), some (.int (nI s)), some (.int w), none, none, none, none, none] [.int 1] σ _ _
            refine ex_if_ne (q := 11) (q2 := 8) dX9_when_5 rfl rfl (fun _ => ?_) (fun hh => absurd (by decide) hh)
            refine ex_aload_n dX9_when_11 rfl rfl ?_
            refine ex_iload_n dX9_when_12 rfl rfl ?_
            refine ex_callV (a := 55) (rest := []) dX9_when_13 rfl qp_8_89 rfl rfl rfl rfl rfl (Nat.le_of_ble_eq_true rfl) (k_isBuilt hT h (by omega)) (Nat.le_of_ble_eq_true rfl) ?_
            show Ex qm_lay _ mX9_when 16 [some (.ref 55), some (.int (nI l)), some (.int (nI s)), some (.int w), none, none, none, none, none] [.int (b2i (Nat.testBit (tn_u T) l))] σ _ _
            refine ex_if_eq (q := 22) (q2 := 19) dX9_when_16 rfl rfl (fun _ => ?_) (fun hh => absurd (b2i_0.mpr (by simpa using c9)) hh)
            refine ex_aload_n dX9_when_22 rfl rfl ?_
            refine ex_iload_n dX9_when_23 rfl rfl ?_
            refine ex_aload_n dX9_when_24 rfl rfl ?_
            refine ex_callV (a := 55) (rest := [.int (nI s), .ref 55]) dX9_when_25 rfl qp_8_244 rfl rfl rfl rfl rfl (Nat.le_of_ble_eq_true rfl) (k_notBuilt hT h) (Nat.le_of_ble_eq_true rfl) ?_
            show Ex qm_lay _ mX9_when 28 [some (.ref 55), some (.int (nI l)), some (.int (nI s)), some (.int w), none, none, none, none, none] [.int (nI (tn_nb T)), .int (nI s), .ref 55] σ _ _
            refine ex_iconst (x := 1) dX9_when_28 rfl rfl ?_
            refine ex_iload_n dX9_when_29 rfl rfl ?_
            refine ex_ishl (z := nI (2 ^ l)) dX9_when_30 rfl (nI_1shl (by omega)) ?_
            refine ex_iconst (x := (-1)) dX9_when_31 rfl rfl ?_
            refine ex_ixor (z := (nI (2 ^ l)) ^^^ (-1)) dX9_when_32 rfl (rfl) ?_
            refine ex_iand (z := nI (tn_cl (tn_nb T) l)) dX9_when_33 rfl (tn_cls (by omega) (by omega)) ?_
            refine ex_callV (a := 55) (rest := []) dX9_when_34 rfl qp_8_262 rfl rfl rfl rfl rfl (Nat.le_of_ble_eq_true rfl) ((by rw [c1] at hOo; exact hOo)) (Nat.le_of_ble_eq_true rfl) ?_
            show Ex qm_lay _ mX9_when 37 [some (.ref 55), some (.int (nI l)), some (.int (nI s)), some (.int w), none, none, none, none, none] [.int 0] σo _ _
            refine ex_istore (ls' := [some (.ref 55), some (.int (nI l)), some (.int (nI s)), some (.int w), some (.int 0), none, none, none, none]) dX9_when_37 rfl (Nat.le_of_ble_eq_true rfl) rfl rfl ?_
            refine ex_iload dX9_when_39 rfl rfl ?_
            refine ex_if_eq (q := 47) (q2 := 44) dX9_when_41 rfl rfl (fun _ => ?_) (fun hh => absurd (by decide) hh)
            refine ex_iload_n dX9_when_47 rfl rfl ?_
            refine ex_iconst (x := 0) dX9_when_48 rfl rfl ?_
            refine ex_iconst (x := 1) dX9_when_49 rfl rfl ?_
            refine ex_callS (rest := []) dX9_when_50 rfl qp_8_81 rfl rfl rfl (Nat.le_of_ble_eq_true rfl) (k_in _ _ _ _) (Nat.le_of_ble_eq_true rfl) ?_
            show Ex qm_lay _ mX9_when 53 [some (.ref 55), some (.int (nI l)), some (.int (nI s)), some (.int w), some (.int 0), none, none, none, none] [.int (b2i (tn_in w 0 1))] σo _ _
            refine ex_if_ne (q := 59) (q2 := 56) dX9_when_53 rfl rfl (fun hh => absurd hh (fun zz => zz (b2i_0.mpr (by simpa using c2)))) (fun _ => ?_)
            refine ex_bipush (x := (-7)) dX9_when_56 rfl rfl ?_
            exact ex_iret dX9_when_58 rfl rfl rfl
      · refine J.u (.int (gs_ro S s (tn_cl (tn_nb T) l))) (T, X, P, Im, S) hG (fun σ hC => ?_) (fun σ hM => ?_)
        · have h : TR σ 9 18 T := hC.1
          obtain ⟨σo, hOo, hord, hso1⟩ := c_refusalOfOrder hG hC s hbits7
          refine ⟨σo, ?_, CG.aux hG hC (hso1.wid (by omega) (by omega)), hso1.wid (by omega) (by omega)⟩
          refine Ok.of (ls := [some (.ref 54), some (.int (nI l)), some (.int s), some (.int w), none, none, none, none, none, none]) (Nat.le_of_ble_eq_true rfl) rfl ?_
          refine ex_aload_n dX8_when_0 rfl rfl ?_
          refine ex_getR (b := 22) dX8_when_1 rfl qp_7_10 rfl rfl ?_
          refine ex_iload_n dX8_when_4 rfl rfl ?_
          refine ex_callV (a := 22) (rest := []) dX8_when_5 rfl qp_7_95 rfl rfl rfl rfl rfl (Nat.le_of_ble_eq_true rfl) (c_hasLot_0n hT h (by omega)) (Nat.le_of_ble_eq_true rfl) ?_
          show Ex qm_lay _ mX8_when 8 [some (.ref 54), some (.int (nI l)), some (.int s), some (.int w), none, none, none, none, none, none] [.int 1] σ _ _
          refine ex_if_ne (q := 14) (q2 := 11) dX8_when_8 rfl rfl (fun _ => ?_) (fun hh => absurd (by decide) hh)
          refine ex_aload_n dX8_when_14 rfl rfl ?_
          refine ex_getR (b := 22) dX8_when_15 rfl qp_7_10 rfl rfl ?_
          refine ex_iload_n dX8_when_18 rfl rfl ?_
          refine ex_callV (a := 22) (rest := []) dX8_when_19 rfl qp_7_127 rfl rfl rfl rfl rfl (Nat.le_of_ble_eq_true rfl) (c_isBuilt_0n hT h (by omega)) (Nat.le_of_ble_eq_true rfl) ?_
          show Ex qm_lay _ mX8_when 22 [some (.ref 54), some (.int (nI l)), some (.int s), some (.int w), none, none, none, none, none, none] [.int (b2i (Nat.testBit (tn_u T) l))] σ _ _
          refine ex_if_eq (q := 28) (q2 := 25) dX8_when_22 rfl rfl (fun _ => ?_) (fun hh => absurd (b2i_0.mpr (by simpa using c9)) hh)
          refine ex_aload_n dX8_when_28 rfl rfl ?_
          refine ex_iload_n dX8_when_29 rfl rfl ?_
          refine ex_aload_n dX8_when_30 rfl rfl ?_
          refine ex_getR (b := 22) dX8_when_31 rfl qp_7_10 rfl rfl ?_
          refine ex_callV (a := 22) (rest := [.int s, .ref 54]) dX8_when_34 rfl qp_7_190 rfl rfl rfl rfl rfl (Nat.le_of_ble_eq_true rfl) (c_unbuiltBits_0 hT h) (Nat.le_of_ble_eq_true rfl) ?_
          show Ex qm_lay _ mX8_when 37 [some (.ref 54), some (.int (nI l)), some (.int s), some (.int w), none, none, none, none, none, none] [.int (nI (tn_nb T)), .int s, .ref 54] σ _ _
          refine ex_iconst (x := 1) dX8_when_37 rfl rfl ?_
          refine ex_iload_n dX8_when_38 rfl rfl ?_
          refine ex_ishl (z := nI (2 ^ l)) dX8_when_39 rfl (nI_1shl (by omega)) ?_
          refine ex_iconst (x := (-1)) dX8_when_40 rfl rfl ?_
          refine ex_ixor (z := (nI (2 ^ l)) ^^^ (-1)) dX8_when_41 rfl (rfl) ?_
          refine ex_iand (z := nI (tn_cl (tn_nb T) l)) dX8_when_42 rfl (tn_cls (by omega) (by omega)) ?_
          refine ex_callV (a := 54) (rest := []) dX8_when_43 rfl qp_7_193 rfl rfl rfl rfl rfl (Nat.le_of_ble_eq_true rfl) (hOo) (Nat.le_of_ble_eq_true rfl) ?_
          show Ex qm_lay _ mX8_when 46 [some (.ref 54), some (.int (nI l)), some (.int s), some (.int w), none, none, none, none, none, none] [.int (gs_ro S s (tn_cl (tn_nb T) l))] σo _ _
          refine ex_istore (ls' := [some (.ref 54), some (.int (nI l)), some (.int s), some (.int w), some (.int (gs_ro S s (tn_cl (tn_nb T) l))), none, none, none, none, none]) dX8_when_46 rfl (Nat.le_of_ble_eq_true rfl) rfl rfl ?_
          refine ex_iload dX8_when_48 rfl rfl ?_
          refine ex_if_eq (q := 56) (q2 := 53) dX8_when_50 rfl rfl (fun hh => absurd hh (c1)) (fun _ => ?_)
          refine ex_iload dX8_when_53 rfl rfl ?_
          exact ex_iret dX8_when_55 rfl rfl rfl
        · have h : MR σ T := hM.1
          obtain ⟨σo, hOo, hord, hso1⟩ := k_readsRow hG hM s hbits
          refine ⟨σo, ?_, MG.aux hM (hso1.wid (by omega) (by omega)), hso1.wid (by omega) (by omega)⟩
          refine Ok.of (ls := [some (.ref 55), some (.int (nI l)), some (.int s), some (.int w), none, none, none, none, none]) (Nat.le_of_ble_eq_true rfl) rfl ?_
          refine ex_aload_n dX9_when_0 rfl rfl ?_
          refine ex_iload_n dX9_when_1 rfl rfl ?_
          refine ex_callV (a := 55) (rest := []) dX9_when_2 rfl qp_8_85 rfl rfl rfl rfl rfl (Nat.le_of_ble_eq_true rfl) (k_isLot_n hT h (by omega)) (Nat.le_of_ble_eq_true rfl) ?_
          show Ex qm_lay _ mX9_when 5 [some (.ref 55), some (.int (nI l)), some (.int s), some (.int w), none, none, none, none, none] [.int 1] σ _ _
          refine ex_if_ne (q := 11) (q2 := 8) dX9_when_5 rfl rfl (fun _ => ?_) (fun hh => absurd (by decide) hh)
          refine ex_aload_n dX9_when_11 rfl rfl ?_
          refine ex_iload_n dX9_when_12 rfl rfl ?_
          refine ex_callV (a := 55) (rest := []) dX9_when_13 rfl qp_8_89 rfl rfl rfl rfl rfl (Nat.le_of_ble_eq_true rfl) (k_isBuilt hT h (by omega)) (Nat.le_of_ble_eq_true rfl) ?_
          show Ex qm_lay _ mX9_when 16 [some (.ref 55), some (.int (nI l)), some (.int s), some (.int w), none, none, none, none, none] [.int (b2i (Nat.testBit (tn_u T) l))] σ _ _
          refine ex_if_eq (q := 22) (q2 := 19) dX9_when_16 rfl rfl (fun _ => ?_) (fun hh => absurd (b2i_0.mpr (by simpa using c9)) hh)
          refine ex_aload_n dX9_when_22 rfl rfl ?_
          refine ex_iload_n dX9_when_23 rfl rfl ?_
          refine ex_aload_n dX9_when_24 rfl rfl ?_
          refine ex_callV (a := 55) (rest := [.int s, .ref 55]) dX9_when_25 rfl qp_8_244 rfl rfl rfl rfl rfl (Nat.le_of_ble_eq_true rfl) (k_notBuilt hT h) (Nat.le_of_ble_eq_true rfl) ?_
          show Ex qm_lay _ mX9_when 28 [some (.ref 55), some (.int (nI l)), some (.int s), some (.int w), none, none, none, none, none] [.int (nI (tn_nb T)), .int s, .ref 55] σ _ _
          refine ex_iconst (x := 1) dX9_when_28 rfl rfl ?_
          refine ex_iload_n dX9_when_29 rfl rfl ?_
          refine ex_ishl (z := nI (2 ^ l)) dX9_when_30 rfl (nI_1shl (by omega)) ?_
          refine ex_iconst (x := (-1)) dX9_when_31 rfl rfl ?_
          refine ex_ixor (z := (nI (2 ^ l)) ^^^ (-1)) dX9_when_32 rfl (rfl) ?_
          refine ex_iand (z := nI (tn_cl (tn_nb T) l)) dX9_when_33 rfl (tn_cls (by omega) (by omega)) ?_
          refine ex_callV (a := 55) (rest := []) dX9_when_34 rfl qp_8_262 rfl rfl rfl rfl rfl (Nat.le_of_ble_eq_true rfl) (hOo) (Nat.le_of_ble_eq_true rfl) ?_
          show Ex qm_lay _ mX9_when 37 [some (.ref 55), some (.int (nI l)), some (.int s), some (.int w), none, none, none, none, none] [.int (gs_ro S s (tn_cl (tn_nb T) l))] σo _ _
          refine ex_istore (ls' := [some (.ref 55), some (.int (nI l)), some (.int s), some (.int w), some (.int (gs_ro S s (tn_cl (tn_nb T) l))), none, none, none, none]) dX9_when_37 rfl (Nat.le_of_ble_eq_true rfl) rfl rfl ?_
          refine ex_iload dX9_when_39 rfl rfl ?_
          refine ex_if_eq (q := 47) (q2 := 44) dX9_when_41 rfl rfl (fun hh => absurd hh (c1)) (fun _ => ?_)
          refine ex_iload dX9_when_44 rfl rfl ?_
          exact ex_iret dX9_when_46 rfl rfl rfl
  · refine J.q hG (.int (-5)) (fun σ hC => ?_) (fun σ hM => ?_)
    · have h : TR σ 9 18 T := hC.1
      refine Ok.of (ls := [some (.ref 54), some (.int l), some (.int s), some (.int w), none, none, none, none, none, none]) (Nat.le_of_ble_eq_true rfl) rfl ?_
      refine ex_aload_n dX8_when_0 rfl rfl ?_
      refine ex_getR (b := 22) dX8_when_1 rfl qp_7_10 rfl rfl ?_
      refine ex_iload_n dX8_when_4 rfl rfl ?_
      refine ex_callV (a := 22) (rest := []) dX8_when_5 rfl qp_7_95 rfl rfl rfl rfl rfl (Nat.le_of_ble_eq_true rfl) (c_hasLot_0 hT h l) (Nat.le_of_ble_eq_true rfl) ?_
      show Ex qm_lay _ mX8_when 8 [some (.ref 54), some (.int l), some (.int s), some (.int w), none, none, none, none, none, none] [.int (b2i (tn_has T l))] σ _ _
      refine ex_if_ne (q := 14) (q2 := 11) dX8_when_8 rfl rfl (fun hh => absurd hh (fun zz => zz (b2i_0.mpr (by simpa using c0)))) (fun _ => ?_)
      refine ex_bipush (x := (-5)) dX8_when_11 rfl rfl ?_
      exact ex_iret dX8_when_13 rfl rfl rfl
    · have h : MR σ T := hM.1
      refine Ok.of (ls := [some (.ref 55), some (.int l), some (.int s), some (.int w), none, none, none, none, none]) (Nat.le_of_ble_eq_true rfl) rfl ?_
      refine ex_aload_n dX9_when_0 rfl rfl ?_
      refine ex_iload_n dX9_when_1 rfl rfl ?_
      refine ex_callV (a := 55) (rest := []) dX9_when_2 rfl qp_8_85 rfl rfl rfl rfl rfl (Nat.le_of_ble_eq_true rfl) (k_isLot hT h l) (Nat.le_of_ble_eq_true rfl) ?_
      show Ex qm_lay _ mX9_when 5 [some (.ref 55), some (.int l), some (.int s), some (.int w), none, none, none, none, none] [.int (b2i (tn_has T l))] σ _ _
      refine ex_if_ne (q := 11) (q2 := 8) dX9_when_5 rfl rfl (fun hh => absurd hh (fun zz => zz (b2i_0.mpr (by simpa using c0)))) (fun _ => ?_)
      refine ex_bipush (x := (-5)) dX9_when_8 rfl rfl ?_
      exact ex_iret dX9_when_10 rfl rfl rfl

