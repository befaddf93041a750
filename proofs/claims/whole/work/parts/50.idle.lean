theorem gi_ok.ext {T T' : tn_T} {n : Nat} {I : gi_T} (h : gi_ok T n I) (h1 : tn_L T' = tn_L T) (h2 : tn_k T' = tn_k T) (h3 : tn_m T' = tn_m T) : gi_ok T' n I := fun g => by
  obtain ⟨g1, g2, g3, g4⟩ := h g
  exact ⟨g1, g2, by rw [h1]; exact g3, by rw [h2, h3]; exact g4⟩
theorem lm_open_ok {T : tn_T} (hT : tn_ok T) (X : gx_T) {a b : Nat} (ha : a < tn_L T) (hb : b < tn_L T) (hab : a ≠ b) : tn_ok (lm_open T X a b).2 := lm_run_ok X 20 _ _ (tn_jn_ok hT ha hb hab)
theorem lm_open_L (T : tn_T) (X : gx_T) (a b : Nat) : tn_L (lm_open T X a b).2 = tn_L T ∧ tn_w (lm_open T X a b).2 = tn_w T ∧ (lm_open T X a b).1 ≤ 20 ∧ tn_k (lm_open T X a b).2 = tn_k T ∧ tn_m (lm_open T X a b).2 = tn_m T := lm_run_L X 20 (tn_jn T a b) _
theorem CG.thinkL {σ σ' : qm_St} {G : gg_T} (hG : gg_ok G) (h : CG σ G) (g : sl σ σ' 13 17 23 28 4 6) : CG σ' G := by
  obtain ⟨τ, s1, s2⟩ := g.split 8
  exact CG.think hG (CG.says (T := gg_t G) (X := gg_x G) (P := gg_p G) (Im := gg_i G) (S := gg_s G) hG.2.1 h s1) s2
theorem CG.townL {σ σ' : qm_St} {G : gg_T} {T : tn_T} (hG : gg_ok G) (h : CG σ G) (hT : TR σ' 9 18 T) (g : sl σ σ' 9 13 18 23 4 6) : CG σ' (T, gg_x G, gg_p G, gg_i G, gg_s G) := by
  obtain ⟨τ, s1, s2⟩ := g.split 8
  exact CG.town (G := G) hG (CG.says (T := gg_t G) (X := gg_x G) (P := gg_p G) (Im := gg_i G) (S := gg_s G) hG.2.1 h s1) hT s2
theorem MG.townL {σ σ' : qm_St} {G : gg_T} {T : tn_T} (h : MG σ G) (hT : MR σ' T) (g : sl σ σ' 28 28 44 47 57 59) : MG σ' (T, gg_x G, gg_p G, gg_i G, gg_s G) := by
  obtain ⟨τ, s1, s2⟩ := g.split 36
  exact MG.town (G := G) (MG.says (T := gg_t G) (X := gg_x G) (P := gg_p G) (Im := gg_i G) (S := gg_s G) h s1) hT (s2.wid (by omega) (by omega))
/-- what the other side only thinks of -/
theorem MG.thinkL {σ σ' : qm_St} {G : gg_T} (h : MG σ G) (hT : MR σ' (gg_t G)) (g : sl σ σ' 36 46 44 47 56 62) : MG σ' G := by
  obtain ⟨τ, s1, s2⟩ := g.split 36
  exact ⟨hT, (h.2.1.sm s1 (by omega) (by omega)).sm s2 (by omega) (by omega), (h.2.2.1.sm s1 (by omega) (by omega)).sm s2 (by omega) (by omega), (h.2.2.2.1.sm s1 (by omega) (by omega)).sm s2 (by omega) (by omega), (h.2.2.2.2.1.sm s1 (by omega)).sm s2 (by omega), (h.2.2.2.2.2.sm s1 (by omega)).sm s2 (by omega)⟩
theorem MS.ext {σ : qm_St} {T T' : tn_T} (h : MS σ T) (h1 : tn_L T' = tn_L T) (h0 : tn_w T' = tn_w T) (h2 : tn_k T' = tn_k T) (h3 : tn_m T' = tn_m T) : MS σ T' := by
  unfold MS; rw [h0, h1, h2, h3]; exact h
/-- idle's sums -/
def id_st (T : tn_T) (X : gx_T) (a b : Nat) (s : Int32 × Int32 × Nat) : Int32 × Int32 × Nat :=
  if (tn_b T a).testBit b = true then s else (s.1 + (if (lm_open T X a b).1 = 0 then 1 else 0), if s.2.2 < (lm_open T X a b).1 then nI (10 * a + b) else s.2.1, if s.2.2 < (lm_open T X a b).1 then (lm_open T X a b).1 else s.2.2)
def id_in (T : tn_T) (X : gx_T) (a : Nat) : Nat → Nat → Int32 × Int32 × Nat → Int32 × Int32 × Nat
  | 0, _, s => s
  | r + 1, k, s => id_in T X a r (k + 1) (id_st T X a k s)
def id_out (T : tn_T) (X : gx_T) : Nat → Nat → Int32 × Int32 × Nat → Int32 × Int32 × Nat
  | 0, _, s => s
  | r + 1, k, s => id_out T X r (k + 1) (id_in T X k (tn_L T - (k + 1)) (k + 1) s)
theorem id_in_20 (T : tn_T) (X : gx_T) (a : Nat) : ∀ r k s, s.2.2 ≤ 20 → (id_in T X a r k s).2.2 ≤ 20
  | 0, _, _, h => h
  | r + 1, k, s, h => id_in_20 T X a r (k + 1) _ (by
    unfold id_st
    split
    · exact h
    · show (if _ then _ else _) ≤ 20
      split
      · exact (lm_open_L T X a k).2.2.1
      · exact h)
/-- the laws' bits -/
def lw_b (T : tn_T) (X : gx_T) (a b m : Nat) : Nat → Nat
  | 0 => 0
  | n + 1 => lw_b T X a b m n ||| (if (lm_open (tn_lw T n) X a b).1 = m then 2 ^ n else 0)

theorem c_refL_0 {σ : qm_St} {T : tn_T} (hT : tn_ok T) (h : TR σ 9 18 T) {x y : Int32} (c1 : tn_two T x y = false) : Ok qm_lay 3 mX8_refusalOfLane [.ref 54, .int x, .int y] σ (some (.int (-5))) σ := by
  refine Ok.of (ls := [some (.ref 54), some (.int x), some (.int y)]) (Nat.le_of_ble_eq_true rfl) rfl ?_
  have hL := hT.1
  refine ex_aload_n dX8_refusalOfLane_0 rfl rfl ?_
  refine ex_getR (b := 22) dX8_refusalOfLane_1 rfl qp_7_10 rfl rfl ?_
  refine ex_iload_n dX8_refusalOfLane_4 rfl rfl ?_
  refine ex_iload_n dX8_refusalOfLane_5 rfl rfl ?_
  refine ex_callV (a := 22) (rest := []) dX8_refusalOfLane_6 rfl qp_7_159 rfl rfl rfl rfl rfl (Nat.le_of_ble_eq_true rfl) (c_hasTwoLots_0 hT h x y) (Nat.le_of_ble_eq_true rfl) ?_
  show Ex qm_lay _ mX8_refusalOfLane 9 [some (.ref 54), some (.int x), some (.int y)] [.int (b2i (tn_two T x y))] σ _ _
  refine ex_if_ne (q := 15) (q2 := 12) dX8_refusalOfLane_9 rfl rfl (fun hh => absurd hh (fun zz => zz (b2i_0.mpr (c1)))) (fun _ => ?_)
  refine ex_bipush (x := (-5)) dX8_refusalOfLane_12 rfl rfl ?_
  exact ex_iret dX8_refusalOfLane_14 rfl rfl rfl

theorem c_refL_1 {σ : qm_St} {T : tn_T} (hT : tn_ok T) (h : TR σ 9 18 T) {a b : Nat} (ha : a < tn_L T) (hb : b < tn_L T) (hab : a ≠ b) (c2 : (tn_b T a).testBit b = true) : Ok qm_lay 3 mX8_refusalOfLane [.ref 54, .int (nI a), .int (nI b)] σ (some (.int (-3))) σ := by
  refine Ok.of (ls := [some (.ref 54), some (.int (nI a)), some (.int (nI b))]) (Nat.le_of_ble_eq_true rfl) rfl ?_
  have hL := hT.1
  refine ex_aload_n dX8_refusalOfLane_0 rfl rfl ?_
  refine ex_getR (b := 22) dX8_refusalOfLane_1 rfl qp_7_10 rfl rfl ?_
  refine ex_iload_n dX8_refusalOfLane_4 rfl rfl ?_
  refine ex_iload_n dX8_refusalOfLane_5 rfl rfl ?_
  refine ex_callV (a := 22) (rest := []) dX8_refusalOfLane_6 rfl qp_7_159 rfl rfl rfl rfl rfl (Nat.le_of_ble_eq_true rfl) (c_hasTwoLots_0 hT h (nI a) (nI b)) (Nat.le_of_ble_eq_true rfl) ?_
  show Ex qm_lay _ mX8_refusalOfLane 9 [some (.ref 54), some (.int (nI a)), some (.int (nI b))] [.int (b2i (tn_two T (nI a) (nI b)))] σ _ _
  refine ex_if_ne (q := 15) (q2 := 12) dX8_refusalOfLane_9 rfl rfl (fun _ => ?_) (fun hh => absurd (b2i_n0.mpr ((tn_two_nI hT ha hb hab))) hh)
  refine ex_aload_n dX8_refusalOfLane_15 rfl rfl ?_
  refine ex_getR (b := 22) dX8_refusalOfLane_16 rfl qp_7_10 rfl rfl ?_
  refine ex_iload_n dX8_refusalOfLane_19 rfl rfl ?_
  refine ex_iload_n dX8_refusalOfLane_20 rfl rfl ?_
  refine ex_callV (a := 22) (rest := []) dX8_refusalOfLane_21 rfl qp_7_163 rfl rfl rfl rfl rfl (Nat.le_of_ble_eq_true rfl) (c_areBeside_0 hT h (by omega) (by omega)) (Nat.le_of_ble_eq_true rfl) ?_
  show Ex qm_lay _ mX8_refusalOfLane 24 [some (.ref 54), some (.int (nI a)), some (.int (nI b))] [.int (b2i (Nat.testBit (tn_b T a) b))] σ _ _
  refine ex_if_eq (q := 32) (q2 := 27) dX8_refusalOfLane_24 rfl rfl (fun hh => absurd hh (b2i_n0.mpr (c2))) (fun _ => ?_)
  refine ex_bipush (x := (-3)) dX8_refusalOfLane_27 rfl rfl ?_
  refine ex_goto (q := 33) dX8_refusalOfLane_29 rfl ?_
  exact ex_iret dX8_refusalOfLane_33 rfl rfl rfl

theorem c_refL_2 {σ : qm_St} {T : tn_T} (hT : tn_ok T) (h : TR σ 9 18 T) {a b : Nat} (ha : a < tn_L T) (hb : b < tn_L T) (hab : a ≠ b) (c2 : (tn_b T a).testBit b = false) : Ok qm_lay 3 mX8_refusalOfLane [.ref 54, .int (nI a), .int (nI b)] σ (some (.int (0))) σ := by
  refine Ok.of (ls := [some (.ref 54), some (.int (nI a)), some (.int (nI b))]) (Nat.le_of_ble_eq_true rfl) rfl ?_
  have hL := hT.1
  refine ex_aload_n dX8_refusalOfLane_0 rfl rfl ?_
  refine ex_getR (b := 22) dX8_refusalOfLane_1 rfl qp_7_10 rfl rfl ?_
  refine ex_iload_n dX8_refusalOfLane_4 rfl rfl ?_
  refine ex_iload_n dX8_refusalOfLane_5 rfl rfl ?_
  refine ex_callV (a := 22) (rest := []) dX8_refusalOfLane_6 rfl qp_7_159 rfl rfl rfl rfl rfl (Nat.le_of_ble_eq_true rfl) (c_hasTwoLots_0 hT h (nI a) (nI b)) (Nat.le_of_ble_eq_true rfl) ?_
  show Ex qm_lay _ mX8_refusalOfLane 9 [some (.ref 54), some (.int (nI a)), some (.int (nI b))] [.int (b2i (tn_two T (nI a) (nI b)))] σ _ _
  refine ex_if_ne (q := 15) (q2 := 12) dX8_refusalOfLane_9 rfl rfl (fun _ => ?_) (fun hh => absurd (b2i_n0.mpr ((tn_two_nI hT ha hb hab))) hh)
  refine ex_aload_n dX8_refusalOfLane_15 rfl rfl ?_
  refine ex_getR (b := 22) dX8_refusalOfLane_16 rfl qp_7_10 rfl rfl ?_
  refine ex_iload_n dX8_refusalOfLane_19 rfl rfl ?_
  refine ex_iload_n dX8_refusalOfLane_20 rfl rfl ?_
  refine ex_callV (a := 22) (rest := []) dX8_refusalOfLane_21 rfl qp_7_163 rfl rfl rfl rfl rfl (Nat.le_of_ble_eq_true rfl) (c_areBeside_0 hT h (by omega) (by omega)) (Nat.le_of_ble_eq_true rfl) ?_
  show Ex qm_lay _ mX8_refusalOfLane 24 [some (.ref 54), some (.int (nI a)), some (.int (nI b))] [.int (b2i (Nat.testBit (tn_b T a) b))] σ _ _
  refine ex_if_eq (q := 32) (q2 := 27) dX8_refusalOfLane_24 rfl rfl (fun _ => ?_) (fun hh => absurd (b2i_0.mpr (c2)) hh)
  refine ex_iconst (x := 0) dX8_refusalOfLane_32 rfl rfl ?_
  exact ex_iret dX8_refusalOfLane_33 rfl rfl rfl

set_option maxHeartbeats 2000000 in
theorem j_lane {T : tn_T} {X : gx_T} {P : gt_T} {Im : gi_T} {S : gs_T} (hG : gg_ok (T, X, P, Im, S)) (x y : Int32) : J mX8_lane mX9_lane [.int x, .int y] (T, X, P, Im, S) := by
  have hT : tn_ok T := hG.1
  have hX : gx_ok X := hG.2.1
  have hP : gt_ok P := hG.2.2.1
  have hI : gi_ok T (gx_n X) Im := hG.2.2.2.1
  have hS : gs_ok S := hG.2.2.2.2.1
  have hw : tn_w T < gx_n X := hG.2.2.2.2.2
  have hL := hT.1
  have hw6 := hT.2.1
  have hu := tn_u_lt hT
  have hX6 := hX.2.1
  have hP6 := hP.1
  by_cases c1 : tn_two T x y = true
  · obtain ⟨a, b, ha, hb, hab, rfl, rfl⟩ := tn_two_of hT c1
    have hba := tn_b_lt hT ha
    have hbb := tn_b_lt hT hb
    by_cases c2 : (tn_b T a).testBit b = true
    · refine J.q hG (.int (-3)) (fun σ hC => ?_) (fun σ hM => ?_)
      · have h : TR σ 9 18 T := hC.1
        refine Ok.of (ls := [some (.ref 54), some (.int (nI a)), some (.int (nI b)), none]) (Nat.le_of_ble_eq_true rfl) rfl ?_
        refine ex_aload_n dX8_lane_0 rfl rfl ?_
        refine ex_iload_n dX8_lane_1 rfl rfl ?_
        refine ex_iload_n dX8_lane_2 rfl rfl ?_
        refine ex_callV (a := 54) (rest := []) dX8_lane_3 rfl qp_7_149 rfl rfl rfl rfl rfl (Nat.le_of_ble_eq_true rfl) (c_refL_1 hT h ha hb hab c2) (Nat.le_of_ble_eq_true rfl) ?_
        show Ex qm_lay _ mX8_lane 6 [some (.ref 54), some (.int (nI a)), some (.int (nI b)), none] [.int (-3)] σ _ _
        refine ex_istore_n (ls' := [some (.ref 54), some (.int (nI a)), some (.int (nI b)), some (.int (-3))]) dX8_lane_6 rfl (Nat.le_of_ble_eq_true rfl) rfl rfl ?_
        refine ex_iload_n dX8_lane_7 rfl rfl ?_
        refine ex_if_eq (q := 15) (q2 := 11) dX8_lane_8 rfl rfl (fun hh => absurd hh (by decide)) (fun _ => ?_)
        refine ex_iload_n dX8_lane_11 rfl rfl ?_
        refine ex_goto (q := 28) dX8_lane_12 rfl ?_
        exact ex_iret dX8_lane_28 rfl rfl rfl
      · have h : MR σ T := hM.1
        refine Ok.of (ls := [some (.ref 55), some (.int (nI a)), some (.int (nI b))]) (Nat.le_of_ble_eq_true rfl) rfl ?_
        refine ex_aload_n dX9_lane_0 rfl rfl ?_
        refine ex_iload_n dX9_lane_1 rfl rfl ?_
        refine ex_iload_n dX9_lane_2 rfl rfl ?_
        refine ex_callV (a := 55) (rest := []) dX9_lane_3 rfl qp_8_220 rfl rfl rfl rfl rfl (Nat.le_of_ble_eq_true rfl) (k_areTwo hT h (nI a) (nI b)) (Nat.le_of_ble_eq_true rfl) ?_
        show Ex qm_lay _ mX9_lane 6 [some (.ref 55), some (.int (nI a)), some (.int (nI b))] [.int (b2i (tn_two T (nI a) (nI b)))] σ _ _
        refine ex_if_ne (q := 12) (q2 := 9) dX9_lane_6 rfl rfl (fun _ => ?_) (fun hh => absurd (b2i_n0.mpr (c1)) hh)
        refine ex_aload_n dX9_lane_12 rfl rfl ?_
        refine ex_iload_n dX9_lane_13 rfl rfl ?_
        refine ex_iload_n dX9_lane_14 rfl rfl ?_
        refine ex_callV (a := 55) (rest := []) dX9_lane_15 rfl qp_8_186 rfl rfl rfl rfl rfl (Nat.le_of_ble_eq_true rfl) (k_areBeside hT h (by omega) (by omega)) (Nat.le_of_ble_eq_true rfl) ?_
        show Ex qm_lay _ mX9_lane 18 [some (.ref 55), some (.int (nI a)), some (.int (nI b))] [.int (b2i (Nat.testBit (tn_b T a) b))] σ _ _
        refine ex_if_eq (q := 26) (q2 := 21) dX9_lane_18 rfl rfl (fun hh => absurd hh (b2i_n0.mpr (c2))) (fun _ => ?_)
        refine ex_bipush (x := (-3)) dX9_lane_21 rfl rfl ?_
        refine ex_goto (q := 32) dX9_lane_23 rfl ?_
        exact ex_iret dX9_lane_32 rfl rfl rfl
    · refine J.u (.int (nI ((lm_open T X a b).1))) ((lm_open T X a b).2, X, P, Im, S) ⟨lm_open_ok hT X ha hb hab, hX, hP, gi_ok.ext hI (lm_open_L T X a b).1 (lm_open_L T X a b).2.2.2.1 (lm_open_L T X a b).2.2.2.2, hS, by show tn_w (lm_open T X a b).2 < gx_n X; rw [(lm_open_L T X a b).2.1]; exact hw⟩ (fun σ hC => ?_) (fun σ hM => ?_)
      · have h : TR σ 9 18 T := hC.1
        obtain ⟨σ', hO, hR, hXC, hs⟩ := c_openLane_0 hX hT hw h hC.2.1 ha hb hab
        refine ⟨σ', ?_, CG.townL (G := (T, X, P, Im, S)) hG hC hR hs, hs.sm (by omega) (by omega) (by omega)⟩
        refine Ok.of (ls := [some (.ref 54), some (.int (nI a)), some (.int (nI b)), none]) (Nat.le_of_ble_eq_true rfl) rfl ?_
        refine ex_aload_n dX8_lane_0 rfl rfl ?_
        refine ex_iload_n dX8_lane_1 rfl rfl ?_
        refine ex_iload_n dX8_lane_2 rfl rfl ?_
        refine ex_callV (a := 54) (rest := []) dX8_lane_3 rfl qp_7_149 rfl rfl rfl rfl rfl (Nat.le_of_ble_eq_true rfl) (c_refL_2 hT h ha hb hab (by simpa using c2)) (Nat.le_of_ble_eq_true rfl) ?_
        show Ex qm_lay _ mX8_lane 6 [some (.ref 54), some (.int (nI a)), some (.int (nI b)), none] [.int 0] σ _ _
        refine ex_istore_n (ls' := [some (.ref 54), some (.int (nI a)), some (.int (nI b)), some (.int 0)]) dX8_lane_6 rfl (Nat.le_of_ble_eq_true rfl) rfl rfl ?_
        refine ex_iload_n dX8_lane_7 rfl rfl ?_
        refine ex_if_eq (q := 15) (q2 := 11) dX8_lane_8 rfl rfl (fun _ => ?_) (fun hh => absurd (by decide) hh)
        refine ex_aload_n dX8_lane_15 rfl rfl ?_
        refine ex_getR (b := 22) dX8_lane_16 rfl qp_7_10 rfl rfl ?_
        refine ex_aload_n dX8_lane_19 rfl rfl ?_
        refine ex_getR (b := 4) dX8_lane_20 rfl qp_7_29 rfl rfl ?_
        refine ex_iload_n dX8_lane_23 rfl rfl ?_
        refine ex_iload_n dX8_lane_24 rfl rfl ?_
        refine ex_callS (rest := []) dX8_lane_25 rfl qp_7_153 rfl rfl rfl (Nat.le_of_ble_eq_true rfl) (hO) (Nat.le_of_ble_eq_true rfl) ?_
        show Ex qm_lay _ mX8_lane 28 [some (.ref 54), some (.int (nI a)), some (.int (nI b)), some (.int 0)] [.int (nI ((lm_open T X a b).1))] σ' _ _
        exact ex_iret dX8_lane_28 rfl rfl rfl
      · have h : MR σ T := hM.1
        obtain ⟨σ', hO, hR, hXM, hs⟩ := k_lanes hX hT hw h hM.2.1 ha hb hab
        refine ⟨σ', ?_, MG.townL (G := (T, X, P, Im, S)) hM hR hs, hs.sm (by omega) (by omega) (by omega)⟩
        refine Ok.of (ls := [some (.ref 55), some (.int (nI a)), some (.int (nI b))]) (Nat.le_of_ble_eq_true rfl) rfl ?_
        refine ex_aload_n dX9_lane_0 rfl rfl ?_
        refine ex_iload_n dX9_lane_1 rfl rfl ?_
        refine ex_iload_n dX9_lane_2 rfl rfl ?_
        refine ex_callV (a := 55) (rest := []) dX9_lane_3 rfl qp_8_220 rfl rfl rfl rfl rfl (Nat.le_of_ble_eq_true rfl) (k_areTwo hT h (nI a) (nI b)) (Nat.le_of_ble_eq_true rfl) ?_
        show Ex qm_lay _ mX9_lane 6 [some (.ref 55), some (.int (nI a)), some (.int (nI b))] [.int (b2i (tn_two T (nI a) (nI b)))] σ _ _
        refine ex_if_ne (q := 12) (q2 := 9) dX9_lane_6 rfl rfl (fun _ => ?_) (fun hh => absurd (b2i_n0.mpr (c1)) hh)
        refine ex_aload_n dX9_lane_12 rfl rfl ?_
        refine ex_iload_n dX9_lane_13 rfl rfl ?_
        refine ex_iload_n dX9_lane_14 rfl rfl ?_
        refine ex_callV (a := 55) (rest := []) dX9_lane_15 rfl qp_8_186 rfl rfl rfl rfl rfl (Nat.le_of_ble_eq_true rfl) (k_areBeside hT h (by omega) (by omega)) (Nat.le_of_ble_eq_true rfl) ?_
        show Ex qm_lay _ mX9_lane 18 [some (.ref 55), some (.int (nI a)), some (.int (nI b))] [.int (b2i (Nat.testBit (tn_b T a) b))] σ _ _
        refine ex_if_eq (q := 26) (q2 := 21) dX9_lane_18 rfl rfl (fun _ => ?_) (fun hh => absurd (b2i_0.mpr (by simpa using c2)) hh)
        refine ex_aload_n dX9_lane_26 rfl rfl ?_
        refine ex_iload_n dX9_lane_27 rfl rfl ?_
        refine ex_iload_n dX9_lane_28 rfl rfl ?_
        refine ex_callV (a := 55) (rest := []) dX9_lane_29 rfl qp_8_223 rfl rfl rfl rfl rfl (Nat.le_of_ble_eq_true rfl) (hO) (Nat.le_of_ble_eq_true rfl) ?_
        show Ex qm_lay _ mX9_lane 32 [some (.ref 55), some (.int (nI a)), some (.int (nI b))] [.int (nI ((lm_open T X a b).1))] σ' _ _
        exact ex_iret dX9_lane_32 rfl rfl rfl
  · refine J.q hG (.int (-5)) (fun σ hC => ?_) (fun σ hM => ?_)
    · have h : TR σ 9 18 T := hC.1
      refine Ok.of (ls := [some (.ref 54), some (.int x), some (.int y), none]) (Nat.le_of_ble_eq_true rfl) rfl ?_
      refine ex_aload_n dX8_lane_0 rfl rfl ?_
      refine ex_iload_n dX8_lane_1 rfl rfl ?_
      refine ex_iload_n dX8_lane_2 rfl rfl ?_
      refine ex_callV (a := 54) (rest := []) dX8_lane_3 rfl qp_7_149 rfl rfl rfl rfl rfl (Nat.le_of_ble_eq_true rfl) (c_refL_0 hT h (by simpa using c1)) (Nat.le_of_ble_eq_true rfl) ?_
      show Ex qm_lay _ mX8_lane 6 [some (.ref 54), some (.int x), some (.int y), none] [.int (-5)] σ _ _
      refine ex_istore_n (ls' := [some (.ref 54), some (.int x), some (.int y), some (.int (-5))]) dX8_lane_6 rfl (Nat.le_of_ble_eq_true rfl) rfl rfl ?_
      refine ex_iload_n dX8_lane_7 rfl rfl ?_
      refine ex_if_eq (q := 15) (q2 := 11) dX8_lane_8 rfl rfl (fun hh => absurd hh (by decide)) (fun _ => ?_)
      refine ex_iload_n dX8_lane_11 rfl rfl ?_
      refine ex_goto (q := 28) dX8_lane_12 rfl ?_
      exact ex_iret dX8_lane_28 rfl rfl rfl
    · have h : MR σ T := hM.1
      refine Ok.of (ls := [some (.ref 55), some (.int x), some (.int y)]) (Nat.le_of_ble_eq_true rfl) rfl ?_
      refine ex_aload_n dX9_lane_0 rfl rfl ?_
      refine ex_iload_n dX9_lane_1 rfl rfl ?_
      refine ex_iload_n dX9_lane_2 rfl rfl ?_
      refine ex_callV (a := 55) (rest := []) dX9_lane_3 rfl qp_8_220 rfl rfl rfl rfl rfl (Nat.le_of_ble_eq_true rfl) (k_areTwo hT h x y) (Nat.le_of_ble_eq_true rfl) ?_
      show Ex qm_lay _ mX9_lane 6 [some (.ref 55), some (.int x), some (.int y)] [.int (b2i (tn_two T x y))] σ _ _
      refine ex_if_ne (q := 12) (q2 := 9) dX9_lane_6 rfl rfl (fun hh => absurd hh (fun zz => zz (b2i_0.mpr (by simpa using c1)))) (fun _ => ?_)
      refine ex_bipush (x := (-5)) dX9_lane_9 rfl rfl ?_
      exact ex_iret dX9_lane_11 rfl rfl rfl

theorem c_movesInThought {σ : qm_St} {T : tn_T} {X : gx_T} (hX : gx_ok X) (hT : tn_ok T) (h : TR σ 9 18 T) (hXC : XC σ X) {a b t : Nat} (ha : a < tn_L T) (hb : b < tn_L T) (hab : a ≠ b) (ht : t < gx_n X) : ∃ σ', Ok qm_lay 18 mX8_movesInThought [.ref 54, .int (nI a), .int (nI b), .int (nI t)] σ (some (.int (nI (lm_open (tn_lw T t) X a b).1))) σ' ∧ sl σ σ' 13 17 23 28 4 6 := by
  have hL := hT.1
  have hX6 := hX.2.1
  obtain ⟨σ1, hO1, hR1, hs1⟩ := c_becomes_10 hT h
  have hg : sm σ1 (qm_wI σ1 14 (nI t)) 13 17 23 28 := (sm.rf σ1 13 17 23 28).wI _ (by omega)
  obtain ⟨σ', hO, hR, hXC2, hs⟩ := c_openLane_1 (T := tn_lw T t) hX (tn_lw_ok hT (by omega)) ht (TR.lw hR1 t) ((hXC.sm hX hs1 (by omega) (by omega)).sm hX hg (by omega) (by omega)) ha hb hab
  refine ⟨σ', ?_, ((hs1.l1 4 6).tr (hg.l1 4 6)).tr hs⟩
  refine Ok.of (ls := [some (.ref 54), some (.int (nI a)), some (.int (nI b)), some (.int (nI t))]) (Nat.le_of_ble_eq_true rfl) rfl ?_
  refine ex_aload_n dX8_movesInThought_0 rfl rfl ?_
  refine ex_getR (b := 28) dX8_movesInThought_1 rfl qp_7_16 rfl rfl ?_
  refine ex_aload_n dX8_movesInThought_4 rfl rfl ?_
  refine ex_getR (b := 22) dX8_movesInThought_5 rfl qp_7_10 rfl rfl ?_
  refine ex_callV (a := 28) (rest := []) dX8_movesInThought_8 rfl qp_7_172 rfl rfl rfl rfl rfl (Nat.le_of_ble_eq_true rfl) (hO1) (Nat.le_of_ble_eq_true rfl) ?_
  show Ex qm_lay _ mX8_movesInThought 11 [some (.ref 54), some (.int (nI a)), some (.int (nI b)), some (.int (nI t))] [] σ1 _ _
  refine ex_aload_n dX8_movesInThought_11 rfl rfl ?_
  refine ex_getR (b := 28) dX8_movesInThought_12 rfl qp_7_16 rfl rfl ?_
  refine ex_iload_n dX8_movesInThought_15 rfl rfl ?_
  refine ex_put (σ' := qm_wI σ1 14 (nI t)) dX8_movesInThought_16 rfl qp_7_78 rfl rfl (Or.inl rfl) rfl ?_
  refine ex_aload_n dX8_movesInThought_19 rfl rfl ?_
  refine ex_getR (b := 28) dX8_movesInThought_20 rfl qp_7_16 rfl rfl ?_
  refine ex_aload_n dX8_movesInThought_23 rfl rfl ?_
  refine ex_getR (b := 4) dX8_movesInThought_24 rfl qp_7_29 rfl rfl ?_
  refine ex_iload_n dX8_movesInThought_27 rfl rfl ?_
  refine ex_iload_n dX8_movesInThought_28 rfl rfl ?_
  refine ex_callS (rest := []) dX8_movesInThought_29 rfl qp_7_153 rfl rfl rfl (Nat.le_of_ble_eq_true rfl) (hO) (Nat.le_of_ble_eq_true rfl) ?_
  show Ex qm_lay _ mX8_movesInThought 32 [some (.ref 54), some (.int (nI a)), some (.int (nI b)), some (.int (nI t))] [.int (nI ((lm_open (tn_lw T t) X a b).1))] σ' _ _
  exact ex_iret dX8_movesInThought_32 rfl rfl rfl

theorem back_sl {σ σ1 σ2 σ3 : qm_St} {T : tn_T} {a b : Nat} (h : MR σ T) (h3 : MR σ3 T) (s1 : sm σ σ1 43 44 59 60) (s2 : sl σ1 σ2 28 29 44 47 a b) (s3 : sm σ2 σ3 28 29 44 47) (ha : 56 ≤ a) (hb : b ≤ 62) : sl σ σ3 43 44 44 47 56 62 := by
  refine ⟨fun s hs => ?_, fun r hr hr2 k => ?_⟩
  · by_cases e : s = 28
    · subst e
      have e1 : qm_rI σ3 28 = tn_n T := h3.2.1
      have e2 : qm_rI σ 28 = tn_n T := h.2.1
      rw [e1, e2]
    · rw [s3.1 s (by omega), s2.1 s (by omega), s1.1 s (by omega)]
  · rw [s3.2 r (by omega), s2.2 r (by omega) (by omega), s1.2 r (by omega)]
theorem k_lanesThought {σ : qm_St} {T : tn_T} {X : gx_T} (hX : gx_ok X) (hT : tn_ok T) (hw : tn_w T < gx_n X) (h : MR σ T) (hXM : XM σ X) {a b : Nat} (ha : a < tn_L T) (hb : b < tn_L T) (hab : a ≠ b) : ∃ σ', Ok qm_lay 18 mX9_lanesThought [.ref 55, .int (nI a), .int (nI b)] σ (some (.int (nI (lm_open T X a b).1))) σ' ∧ MR σ' T ∧ sl σ σ' 43 44 44 47 56 62 := by
  obtain ⟨σ1, hO1, hK1, hs1⟩ := k_keeps hT h
  obtain ⟨σ2, hO2, hR2, hX2, hs2⟩ := k_lanes hX hT hw (h.sm hs1 (by omega) (by omega)) (hXM.sm hs1 (by omega) (by omega)) ha hb hab
  obtain ⟨q1, q2, q3, q4, q5⟩ := lm_open_L T X a b
  obtain ⟨τ, t1, t2⟩ := hs2.split 36
  obtain ⟨σ3, hO3, hR3, hs3⟩ := k_laysBack hT ((hK1.sm t1 (by omega) (by omega)).sm t2 (by omega) (by omega)) (MS.ext hR2.1 q1.symm q2.symm q4.symm q5.symm)
  refine ⟨σ3, ?_, hR3, back_sl h hR3 hs1 (hs2.wid (by omega) (by omega)) hs3 (by omega) (by omega)⟩
  refine Ok.of (ls := [some (.ref 55), some (.int (nI a)), some (.int (nI b)), none]) (Nat.le_of_ble_eq_true rfl) rfl ?_
  refine ex_aload_n dX9_lanesThought_0 rfl rfl ?_
  refine ex_callV (a := 55) (rest := []) dX9_lanesThought_1 rfl qp_8_226 rfl rfl rfl rfl rfl (Nat.le_of_ble_eq_true rfl) (hO1) (Nat.le_of_ble_eq_true rfl) ?_
  show Ex qm_lay _ mX9_lanesThought 4 [some (.ref 55), some (.int (nI a)), some (.int (nI b)), none] [] σ1 _ _
  refine ex_aload_n dX9_lanesThought_4 rfl rfl ?_
  refine ex_iload_n dX9_lanesThought_5 rfl rfl ?_
  refine ex_iload_n dX9_lanesThought_6 rfl rfl ?_
  refine ex_callV (a := 55) (rest := []) dX9_lanesThought_7 rfl qp_8_223 rfl rfl rfl rfl rfl (Nat.le_of_ble_eq_true rfl) (hO2) (Nat.le_of_ble_eq_true rfl) ?_
  show Ex qm_lay _ mX9_lanesThought 10 [some (.ref 55), some (.int (nI a)), some (.int (nI b)), none] [.int (nI ((lm_open T X a b).1))] σ2 _ _
  refine ex_istore_n (ls' := [some (.ref 55), some (.int (nI a)), some (.int (nI b)), some (.int (nI ((lm_open T X a b).1)))]) dX9_lanesThought_10 rfl (Nat.le_of_ble_eq_true rfl) rfl rfl ?_
  refine ex_aload_n dX9_lanesThought_11 rfl rfl ?_
  refine ex_callV (a := 55) (rest := []) dX9_lanesThought_12 rfl qp_8_229 rfl rfl rfl rfl rfl (Nat.le_of_ble_eq_true rfl) (hO3) (Nat.le_of_ble_eq_true rfl) ?_
  show Ex qm_lay _ mX9_lanesThought 15 [some (.ref 55), some (.int (nI a)), some (.int (nI b)), some (.int (nI ((lm_open T X a b).1)))] [] σ3 _ _
  refine ex_iload_n dX9_lanesThought_15 rfl rfl ?_
  exact ex_iret dX9_lanesThought_16 rfl rfl rfl

set_option maxHeartbeats 2000000 in
theorem l_idleC1 {T : tn_T} {X : gx_T} {P : gt_T} {Im : gi_T} {S : gs_T} (hG : gg_ok (T, X, P, Im, S)) (what : Int32) {a : Nat} (ha : a < tn_L T) : ∀ (r k : Nat) (x : Option Value) (s : Int32 × Int32 × Nat) (σ1 : qm_St), k + r = tn_L T → a < k → s.2.2 ≤ 20 → CG σ1 (T, X, P, Im, S) → ∃ (σ2 : qm_St) (x2 : Option Value), CG σ2 (T, X, P, Im, S) ∧ sm σ1 σ2 0 27 0 42 ∧ ∀ v τ, Ex qm_lay 100 mX8_idle 122 [some (.ref 54), some (.int what), some (.int ((id_in T X a r k s).1)), some (.int ((id_in T X a r k s).2.1)), some (.int (nI ((id_in T X a r k s).2.2))), some (.int (nI a)), some (.int (nI (tn_L T))), x2] [] σ2 v τ → Ex qm_lay 100 mX8_idle 40 [some (.ref 54), some (.int what), some (.int s.1), some (.int s.2.1), some (.int (nI s.2.2)), some (.int (nI a)), some (.int (nI k)), x] [] σ1 v τ := by
  intro r
  induction r with
  | zero =>
    intro k x s σ1 hk hak hs20 hC
    have hT : tn_ok T := hG.1
    have hX : gx_ok X := hG.2.1
    have hP : gt_ok P := hG.2.2.1
    have hI : gi_ok T (gx_n X) Im := hG.2.2.2.1
    have hS : gs_ok S := hG.2.2.2.2.1
    have hw : tn_w T < gx_n X := hG.2.2.2.2.2
    have hL := hT.1
    have hw6 := hT.2.1
    have hu := tn_u_lt hT
    have hX6 := hX.2.1
    have hP6 := hP.1
    have h : TR σ1 9 18 T := hC.1
    refine ⟨σ1, x, hC, sm.rf _ _ _ _ _, fun v τ hE => ?_⟩
    refine ex_iload dX8_idle_40 rfl rfl ?_
    refine ex_aload_n dX8_idle_42 rfl rfl ?_
    refine ex_getR (b := 22) dX8_idle_43 rfl qp_7_10 rfl rfl ?_
    refine ex_getI (s := 9) (x := nI (tn_L T)) dX8_idle_46 rfl qp_7_61 rfl rfl (h.1) ?_
    refine ex_icmp_ge (q := 122) (q2 := 52) dX8_idle_49 rfl rfl (fun _ => ?_) (fun hh => absurd (nI_le (by omega) (by omega)) hh)
    rw [show tn_L T = k by omega] at hE
    exact hE
  | succ r ih =>
    intro k x s σ1 hk hak hs20 hC
    have hT : tn_ok T := hG.1
    have hX : gx_ok X := hG.2.1
    have hP : gt_ok P := hG.2.2.1
    have hI : gi_ok T (gx_n X) Im := hG.2.2.2.1
    have hS : gs_ok S := hG.2.2.2.2.1
    have hw : tn_w T < gx_n X := hG.2.2.2.2.2
    have hL := hT.1
    have hw6 := hT.2.1
    have hu := tn_u_lt hT
    have hX6 := hX.2.1
    have hP6 := hP.1
    have h : TR σ1 9 18 T := hC.1
    have hba := tn_b_lt hT ha
    by_cases c1 : (tn_b T a).testBit k = true
    · obtain ⟨σ2, x2, g1, g2, g3⟩ := ih (k + 1) x s σ1 (by omega) (by omega) hs20 hC
      have e1 : id_in T X a (r + 1) k s = id_in T X a r (k + 1) s := by rw [id_in, id_st, if_pos c1]
      rw [e1]
      refine ⟨σ2, x2, g1, g2, fun v τ hE => ?_⟩
      have hE2 := g3 v τ hE
      refine ex_iload dX8_idle_40 rfl rfl ?_
      refine ex_aload_n dX8_idle_42 rfl rfl ?_
      refine ex_getR (b := 22) dX8_idle_43 rfl qp_7_10 rfl rfl ?_
      refine ex_getI (s := 9) (x := nI (tn_L T)) dX8_idle_46 rfl qp_7_61 rfl rfl (h.1) ?_
      refine ex_icmp_ge (q := 122) (q2 := 52) dX8_idle_49 rfl rfl (fun hh => absurd hh (nI_ge (by omega) (by omega))) (fun _ => ?_)
      refine ex_aload_n dX8_idle_52 rfl rfl ?_
      refine ex_getR (b := 22) dX8_idle_53 rfl qp_7_10 rfl rfl ?_
      refine ex_iload dX8_idle_56 rfl rfl ?_
      refine ex_iload dX8_idle_58 rfl rfl ?_
      refine ex_callV (a := 22) (rest := []) dX8_idle_60 rfl qp_7_163 rfl rfl rfl rfl rfl (Nat.le_of_ble_eq_true rfl) (c_areBeside_0 hT h (by omega) (by omega)) (Nat.le_of_ble_eq_true rfl) ?_
      show Ex qm_lay _ mX8_idle 63 [some (.ref 54), some (.int what), some (.int s.1), some (.int s.2.1), some (.int (nI s.2.2)), some (.int (nI a)), some (.int (nI k)), x] [.int (b2i (Nat.testBit (tn_b T a) k))] σ1 _ _
      refine ex_if_ne (q := 116) (q2 := 66) dX8_idle_63 rfl rfl (fun _ => ?_) (fun hh => absurd (b2i_n0.mpr (c1)) hh)
      refine ex_iinc (y := nI (k + 1)) (ls' := [some (.ref 54), some (.int what), some (.int s.1), some (.int s.2.1), some (.int (nI s.2.2)), some (.int (nI a)), some (.int (nI (k + 1))), x]) dX8_idle_116 rfl rfl rfl (nI_add k 1) rfl ?_
      refine ex_goto (q := 40) dX8_idle_119 rfl ?_
      exact hE2
    · obtain ⟨σ3, hO, hs3⟩ := c_movesInThought hX hT h hC.2.1 ha (show k < tn_L T by omega) (show a ≠ k by omega) hw
      have hG3 := CG.thinkL (G := (T, X, P, Im, S)) hG hC hs3
      have hs4 : sm σ1 σ3 0 27 0 42 := hs3.sm (by omega) (by omega) (by omega)
      rw [show tn_lw T (tn_w T) = T from rfl] at hO
      have h20 := (lm_open_L T X a k).2.2.1
      obtain ⟨n, hn⟩ : ∃ n, n = (lm_open T X a k).1 := ⟨_, rfl⟩
      rw [← hn] at hO h20
      have e1 : id_in T X a (r + 1) k s = id_in T X a r (k + 1) (s.1 + (if n = 0 then 1 else 0), if s.2.2 < n then nI (10 * a + k) else s.2.1, if s.2.2 < n then n else s.2.2) := by rw [id_in, id_st, if_neg c1, ← hn]
      rw [e1]
      have c5 : (if s.2.2 < n then n else s.2.2) ≤ 20 := by split <;> omega
      obtain ⟨σ2, x2, g1, g2, g3⟩ := ih (k + 1) (some (.int (nI n))) (s.1 + (if n = 0 then 1 else 0), if s.2.2 < n then nI (10 * a + k) else s.2.1, if s.2.2 < n then n else s.2.2) σ3 (by omega) (by omega) c5 hG3
      refine ⟨σ2, x2, g1, hs4.tr g2, fun v τ hE => ?_⟩
      have hE2 := g3 v τ hE
      by_cases c3 : n = 0
      · simp only [if_pos c3] at hE2
        by_cases c4 : s.2.2 < n
        · simp only [if_pos c4] at hE2
          refine ex_iload dX8_idle_40 rfl rfl ?_
          refine ex_aload_n dX8_idle_42 rfl rfl ?_
          refine ex_getR (b := 22) dX8_idle_43 rfl qp_7_10 rfl rfl ?_
          refine ex_getI (s := 9) (x := nI (tn_L T)) dX8_idle_46 rfl qp_7_61 rfl rfl (h.1) ?_
          refine ex_icmp_ge (q := 122) (q2 := 52) dX8_idle_49 rfl rfl (fun hh => absurd hh (nI_ge (by omega) (by omega))) (fun _ => ?_)
          refine ex_aload_n dX8_idle_52 rfl rfl ?_
          refine ex_getR (b := 22) dX8_idle_53 rfl qp_7_10 rfl rfl ?_
          refine ex_iload dX8_idle_56 rfl rfl ?_
          refine ex_iload dX8_idle_58 rfl rfl ?_
          refine ex_callV (a := 22) (rest := []) dX8_idle_60 rfl qp_7_163 rfl rfl rfl rfl rfl (Nat.le_of_ble_eq_true rfl) (c_areBeside_0 hT h (by omega) (by omega)) (Nat.le_of_ble_eq_true rfl) ?_
          show Ex qm_lay _ mX8_idle 63 [some (.ref 54), some (.int what), some (.int s.1), some (.int s.2.1), some (.int (nI s.2.2)), some (.int (nI a)), some (.int (nI k)), x] [.int (b2i (Nat.testBit (tn_b T a) k))] σ1 _ _
          refine ex_if_ne (q := 116) (q2 := 66) dX8_idle_63 rfl rfl (fun hh => absurd hh (fun zz => zz (b2i_0.mpr (by simpa using c1)))) (fun _ => ?_)
          refine ex_aload_n dX8_idle_66 rfl rfl ?_
          refine ex_iload dX8_idle_67 rfl rfl ?_
          refine ex_iload dX8_idle_69 rfl rfl ?_
          refine ex_aload_n dX8_idle_71 rfl rfl ?_
          refine ex_getR (b := 22) dX8_idle_72 rfl qp_7_10 rfl rfl ?_
          refine ex_getI (s := 10) (x := nI (tn_w T)) dX8_idle_75 rfl qp_7_78 rfl rfl (h.2.1) ?_
          refine ex_callV (a := 54) (rest := []) dX8_idle_78 rfl qp_7_169 rfl rfl rfl rfl rfl (Nat.le_of_ble_eq_true rfl) (hO) (Nat.le_of_ble_eq_true rfl) ?_
          show Ex qm_lay _ mX8_idle 81 [some (.ref 54), some (.int what), some (.int s.1), some (.int s.2.1), some (.int (nI s.2.2)), some (.int (nI a)), some (.int (nI k)), x] [.int (nI n)] σ3 _ _
          refine ex_istore (ls' := [some (.ref 54), some (.int what), some (.int s.1), some (.int s.2.1), some (.int (nI s.2.2)), some (.int (nI a)), some (.int (nI k)), some (.int (nI n))]) dX8_idle_81 rfl (Nat.le_of_ble_eq_true rfl) rfl rfl ?_
          refine ex_iload_n dX8_idle_83 rfl rfl ?_
          refine ex_iload dX8_idle_84 rfl rfl ?_
          refine ex_if_ne (q := 93) (q2 := 89) dX8_idle_86 rfl rfl (fun hh => absurd hh (fun zz => zz (congrArg nI c3))) (fun _ => ?_)
          refine ex_iconst (x := 1) dX8_idle_89 rfl rfl ?_
          refine ex_goto (q := 94) dX8_idle_90 rfl ?_
          refine ex_iadd (z := s.1 + 1) dX8_idle_94 rfl (rfl) ?_
          refine ex_istore_n (ls' := [some (.ref 54), some (.int what), some (.int (s.1 + 1)), some (.int s.2.1), some (.int (nI s.2.2)), some (.int (nI a)), some (.int (nI k)), some (.int (nI n))]) dX8_idle_95 rfl (Nat.le_of_ble_eq_true rfl) rfl rfl ?_
          refine ex_iload dX8_idle_96 rfl rfl ?_
          refine ex_iload dX8_idle_98 rfl rfl ?_
          refine ex_icmp_le (q := 116) (q2 := 103) dX8_idle_100 rfl rfl (fun hh => absurd hh (nI_ge (a := s.2.2) (b := n) (by omega) (by omega))) (fun _ => ?_)
          refine ex_iload dX8_idle_103 rfl rfl ?_
          refine ex_istore (ls' := [some (.ref 54), some (.int what), some (.int (s.1 + 1)), some (.int s.2.1), some (.int (nI n)), some (.int (nI a)), some (.int (nI k)), some (.int (nI n))]) dX8_idle_105 rfl (Nat.le_of_ble_eq_true rfl) rfl rfl ?_
          refine ex_bipush (x := 10) dX8_idle_107 rfl rfl ?_
          refine ex_iload dX8_idle_109 rfl rfl ?_
          refine ex_imul (z := nI (10 * a)) dX8_idle_111 rfl (pk_mul 10 a) ?_
          refine ex_iload dX8_idle_112 rfl rfl ?_
          refine ex_iadd (z := nI ((10 * a) + k)) dX8_idle_114 rfl (nI_add (10 * a) k) ?_
          refine ex_istore_n (ls' := [some (.ref 54), some (.int what), some (.int (s.1 + 1)), some (.int (nI ((10 * a) + k))), some (.int (nI n)), some (.int (nI a)), some (.int (nI k)), some (.int (nI n))]) dX8_idle_115 rfl (Nat.le_of_ble_eq_true rfl) rfl rfl ?_
          refine ex_iinc (y := nI (k + 1)) (ls' := [some (.ref 54), some (.int what), some (.int (s.1 + 1)), some (.int (nI ((10 * a) + k))), some (.int (nI n)), some (.int (nI a)), some (.int (nI (k + 1))), some (.int (nI n))]) dX8_idle_116 rfl rfl rfl (nI_add k 1) rfl ?_
          refine ex_goto (q := 40) dX8_idle_119 rfl ?_
          exact hE2
        · simp only [if_neg c4] at hE2
          refine ex_iload dX8_idle_40 rfl rfl ?_
          refine ex_aload_n dX8_idle_42 rfl rfl ?_
          refine ex_getR (b := 22) dX8_idle_43 rfl qp_7_10 rfl rfl ?_
          refine ex_getI (s := 9) (x := nI (tn_L T)) dX8_idle_46 rfl qp_7_61 rfl rfl (h.1) ?_
          refine ex_icmp_ge (q := 122) (q2 := 52) dX8_idle_49 rfl rfl (fun hh => absurd hh (nI_ge (by omega) (by omega))) (fun _ => ?_)
          refine ex_aload_n dX8_idle_52 rfl rfl ?_
          refine ex_getR (b := 22) dX8_idle_53 rfl qp_7_10 rfl rfl ?_
          refine ex_iload dX8_idle_56 rfl rfl ?_
          refine ex_iload dX8_idle_58 rfl rfl ?_
          refine ex_callV (a := 22) (rest := []) dX8_idle_60 rfl qp_7_163 rfl rfl rfl rfl rfl (Nat.le_of_ble_eq_true rfl) (c_areBeside_0 hT h (by omega) (by omega)) (Nat.le_of_ble_eq_true rfl) ?_
          show Ex qm_lay _ mX8_idle 63 [some (.ref 54), some (.int what), some (.int s.1), some (.int s.2.1), some (.int (nI s.2.2)), some (.int (nI a)), some (.int (nI k)), x] [.int (b2i (Nat.testBit (tn_b T a) k))] σ1 _ _
          refine ex_if_ne (q := 116) (q2 := 66) dX8_idle_63 rfl rfl (fun hh => absurd hh (fun zz => zz (b2i_0.mpr (by simpa using c1)))) (fun _ => ?_)
          refine ex_aload_n dX8_idle_66 rfl rfl ?_
          refine ex_iload dX8_idle_67 rfl rfl ?_
          refine ex_iload dX8_idle_69 rfl rfl ?_
          refine ex_aload_n dX8_idle_71 rfl rfl ?_
          refine ex_getR (b := 22) dX8_idle_72 rfl qp_7_10 rfl rfl ?_
          refine ex_getI (s := 10) (x := nI (tn_w T)) dX8_idle_75 rfl qp_7_78 rfl rfl (h.2.1) ?_
          refine ex_callV (a := 54) (rest := []) dX8_idle_78 rfl qp_7_169 rfl rfl rfl rfl rfl (Nat.le_of_ble_eq_true rfl) (hO) (Nat.le_of_ble_eq_true rfl) ?_
          show Ex qm_lay _ mX8_idle 81 [some (.ref 54), some (.int what), some (.int s.1), some (.int s.2.1), some (.int (nI s.2.2)), some (.int (nI a)), some (.int (nI k)), x] [.int (nI n)] σ3 _ _
          refine ex_istore (ls' := [some (.ref 54), some (.int what), some (.int s.1), some (.int s.2.1), some (.int (nI s.2.2)), some (.int (nI a)), some (.int (nI k)), some (.int (nI n))]) dX8_idle_81 rfl (Nat.le_of_ble_eq_true rfl) rfl rfl ?_
          refine ex_iload_n dX8_idle_83 rfl rfl ?_
          refine ex_iload dX8_idle_84 rfl rfl ?_
          refine ex_if_ne (q := 93) (q2 := 89) dX8_idle_86 rfl rfl (fun hh => absurd hh (fun zz => zz (congrArg nI c3))) (fun _ => ?_)
          refine ex_iconst (x := 1) dX8_idle_89 rfl rfl ?_
          refine ex_goto (q := 94) dX8_idle_90 rfl ?_
          refine ex_iadd (z := s.1 + 1) dX8_idle_94 rfl (rfl) ?_
          refine ex_istore_n (ls' := [some (.ref 54), some (.int what), some (.int (s.1 + 1)), some (.int s.2.1), some (.int (nI s.2.2)), some (.int (nI a)), some (.int (nI k)), some (.int (nI n))]) dX8_idle_95 rfl (Nat.le_of_ble_eq_true rfl) rfl rfl ?_
          refine ex_iload dX8_idle_96 rfl rfl ?_
          refine ex_iload dX8_idle_98 rfl rfl ?_
          refine ex_icmp_le (q := 116) (q2 := 103) dX8_idle_100 rfl rfl (fun _ => ?_) (fun hh => absurd (nI_le (a := n) (b := s.2.2) (by omega) (by omega)) hh)
          refine ex_iinc (y := nI (k + 1)) (ls' := [some (.ref 54), some (.int what), some (.int (s.1 + 1)), some (.int s.2.1), some (.int (nI s.2.2)), some (.int (nI a)), some (.int (nI (k + 1))), some (.int (nI n))]) dX8_idle_116 rfl rfl rfl (nI_add k 1) rfl ?_
          refine ex_goto (q := 40) dX8_idle_119 rfl ?_
          exact hE2
      · simp only [if_neg c3] at hE2
        by_cases c4 : s.2.2 < n
        · simp only [if_pos c4] at hE2
          refine ex_iload dX8_idle_40 rfl rfl ?_
          refine ex_aload_n dX8_idle_42 rfl rfl ?_
          refine ex_getR (b := 22) dX8_idle_43 rfl qp_7_10 rfl rfl ?_
          refine ex_getI (s := 9) (x := nI (tn_L T)) dX8_idle_46 rfl qp_7_61 rfl rfl (h.1) ?_
          refine ex_icmp_ge (q := 122) (q2 := 52) dX8_idle_49 rfl rfl (fun hh => absurd hh (nI_ge (by omega) (by omega))) (fun _ => ?_)
          refine ex_aload_n dX8_idle_52 rfl rfl ?_
          refine ex_getR (b := 22) dX8_idle_53 rfl qp_7_10 rfl rfl ?_
          refine ex_iload dX8_idle_56 rfl rfl ?_
          refine ex_iload dX8_idle_58 rfl rfl ?_
          refine ex_callV (a := 22) (rest := []) dX8_idle_60 rfl qp_7_163 rfl rfl rfl rfl rfl (Nat.le_of_ble_eq_true rfl) (c_areBeside_0 hT h (by omega) (by omega)) (Nat.le_of_ble_eq_true rfl) ?_
          show Ex qm_lay _ mX8_idle 63 [some (.ref 54), some (.int what), some (.int s.1), some (.int s.2.1), some (.int (nI s.2.2)), some (.int (nI a)), some (.int (nI k)), x] [.int (b2i (Nat.testBit (tn_b T a) k))] σ1 _ _
          refine ex_if_ne (q := 116) (q2 := 66) dX8_idle_63 rfl rfl (fun hh => absurd hh (fun zz => zz (b2i_0.mpr (by simpa using c1)))) (fun _ => ?_)
          refine ex_aload_n dX8_idle_66 rfl rfl ?_
          refine ex_iload dX8_idle_67 rfl rfl ?_
          refine ex_iload dX8_idle_69 rfl rfl ?_
          refine ex_aload_n dX8_idle_71 rfl rfl ?_
          refine ex_getR (b := 22) dX8_idle_72 rfl qp_7_10 rfl rfl ?_
          refine ex_getI (s := 10) (x := nI (tn_w T)) dX8_idle_75 rfl qp_7_78 rfl rfl (h.2.1) ?_
          refine ex_callV (a := 54) (rest := []) dX8_idle_78 rfl qp_7_169 rfl rfl rfl rfl rfl (Nat.le_of_ble_eq_true rfl) (hO) (Nat.le_of_ble_eq_true rfl) ?_
          show Ex qm_lay _ mX8_idle 81 [some (.ref 54), some (.int what), some (.int s.1), some (.int s.2.1), some (.int (nI s.2.2)), some (.int (nI a)), some (.int (nI k)), x] [.int (nI n)] σ3 _ _
          refine ex_istore (ls' := [some (.ref 54), some (.int what), some (.int s.1), some (.int s.2.1), some (.int (nI s.2.2)), some (.int (nI a)), some (.int (nI k)), some (.int (nI n))]) dX8_idle_81 rfl (Nat.le_of_ble_eq_true rfl) rfl rfl ?_
          refine ex_iload_n dX8_idle_83 rfl rfl ?_
          refine ex_iload dX8_idle_84 rfl rfl ?_
          refine ex_if_ne (q := 93) (q2 := 89) dX8_idle_86 rfl rfl (fun _ => ?_) (fun hh => absurd (fun zz => c3 ((nI_eq (a := n) (b := 0) (by omega) (by decide)).mp zz)) hh)
          refine ex_iconst (x := 0) dX8_idle_93 rfl rfl ?_
          refine ex_iadd (z := s.1 + 0) dX8_idle_94 rfl (rfl) ?_
          refine ex_istore_n (ls' := [some (.ref 54), some (.int what), some (.int (s.1 + 0)), some (.int s.2.1), some (.int (nI s.2.2)), some (.int (nI a)), some (.int (nI k)), some (.int (nI n))]) dX8_idle_95 rfl (Nat.le_of_ble_eq_true rfl) rfl rfl ?_
          refine ex_iload dX8_idle_96 rfl rfl ?_
          refine ex_iload dX8_idle_98 rfl rfl ?_
          refine ex_icmp_le (q := 116) (q2 := 103) dX8_idle_100 rfl rfl (fun hh => absurd hh (nI_ge (a := s.2.2) (b := n) (by omega) (by omega))) (fun _ => ?_)
          refine ex_iload dX8_idle_103 rfl rfl ?_
          refine ex_istore (ls' := [some (.ref 54), some (.int what), some (.int (s.1 + 0)), some (.int s.2.1), some (.int (nI n)), some (.int (nI a)), some (.int (nI k)), some (.int (nI n))]) dX8_idle_105 rfl (Nat.le_of_ble_eq_true rfl) rfl rfl ?_
          refine ex_bipush (x := 10) dX8_idle_107 rfl rfl ?_
          refine ex_iload dX8_idle_109 rfl rfl ?_
          refine ex_imul (z := nI (10 * a)) dX8_idle_111 rfl (pk_mul 10 a) ?_
          refine ex_iload dX8_idle_112 rfl rfl ?_
          refine ex_iadd (z := nI ((10 * a) + k)) dX8_idle_114 rfl (nI_add (10 * a) k) ?_
          refine ex_istore_n (ls' := [some (.ref 54), some (.int what), some (.int (s.1 + 0)), some (.int (nI ((10 * a) + k))), some (.int (nI n)), some (.int (nI a)), some (.int (nI k)), some (.int (nI n))]) dX8_idle_115 rfl (Nat.le_of_ble_eq_true rfl) rfl rfl ?_
          refine ex_iinc (y := nI (k + 1)) (ls' := [some (.ref 54), some (.int what), some (.int (s.1 + 0)), some (.int (nI ((10 * a) + k))), some (.int (nI n)), some (.int (nI a)), some (.int (nI (k + 1))), some (.int (nI n))]) dX8_idle_116 rfl rfl rfl (nI_add k 1) rfl ?_
          refine ex_goto (q := 40) dX8_idle_119 rfl ?_
          exact hE2
        · simp only [if_neg c4] at hE2
          refine ex_iload dX8_idle_40 rfl rfl ?_
          refine ex_aload_n dX8_idle_42 rfl rfl ?_
          refine ex_getR (b := 22) dX8_idle_43 rfl qp_7_10 rfl rfl ?_
          refine ex_getI (s := 9) (x := nI (tn_L T)) dX8_idle_46 rfl qp_7_61 rfl rfl (h.1) ?_
          refine ex_icmp_ge (q := 122) (q2 := 52) dX8_idle_49 rfl rfl (fun hh => absurd hh (nI_ge (by omega) (by omega))) (fun _ => ?_)
          refine ex_aload_n dX8_idle_52 rfl rfl ?_
          refine ex_getR (b := 22) dX8_idle_53 rfl qp_7_10 rfl rfl ?_
          refine ex_iload dX8_idle_56 rfl rfl ?_
          refine ex_iload dX8_idle_58 rfl rfl ?_
          refine ex_callV (a := 22) (rest := []) dX8_idle_60 rfl qp_7_163 rfl rfl rfl rfl rfl (Nat.le_of_ble_eq_true rfl) (c_areBeside_0 hT h (by omega) (by omega)) (Nat.le_of_ble_eq_true rfl) ?_
          show Ex qm_lay _ mX8_idle 63 [some (.ref 54), some (.int what), some (.int s.1), some (.int s.2.1), some (.int (nI s.2.2)), some (.int (nI a)), some (.int (nI k)), x] [.int (b2i (Nat.testBit (tn_b T a) k))] σ1 _ _
          refine ex_if_ne (q := 116) (q2 := 66) dX8_idle_63 rfl rfl (fun hh => absurd hh (fun zz => zz (b2i_0.mpr (by simpa using c1)))) (fun _ => ?_)
          refine ex_aload_n dX8_idle_66 rfl rfl ?_
          refine ex_iload dX8_idle_67 rfl rfl ?_
          refine ex_iload dX8_idle_69 rfl rfl ?_
          refine ex_aload_n dX8_idle_71 rfl rfl ?_
          refine ex_getR (b := 22) dX8_idle_72 rfl qp_7_10 rfl rfl ?_
          refine ex_getI (s := 10) (x := nI (tn_w T)) dX8_idle_75 rfl qp_7_78 rfl rfl (h.2.1) ?_
          refine ex_callV (a := 54) (rest := []) dX8_idle_78 rfl qp_7_169 rfl rfl rfl rfl rfl (Nat.le_of_ble_eq_true rfl) (hO) (Nat.le_of_ble_eq_true rfl) ?_
          show Ex qm_lay _ mX8_idle 81 [some (.ref 54), some (.int what), some (.int s.1), some (.int s.2.1), some (.int (nI s.2.2)), some (.int (nI a)), some (.int (nI k)), x] [.int (nI n)] σ3 _ _
          refine ex_istore (ls' := [some (.ref 54), some (.int what), some (.int s.1), some (.int s.2.1), some (.int (nI s.2.2)), some (.int (nI a)), some (.int (nI k)), some (.int (nI n))]) dX8_idle_81 rfl (Nat.le_of_ble_eq_true rfl) rfl rfl ?_
          refine ex_iload_n dX8_idle_83 rfl rfl ?_
          refine ex_iload dX8_idle_84 rfl rfl ?_
          refine ex_if_ne (q := 93) (q2 := 89) dX8_idle_86 rfl rfl (fun _ => ?_) (fun hh => absurd (fun zz => c3 ((nI_eq (a := n) (b := 0) (by omega) (by decide)).mp zz)) hh)
          refine ex_iconst (x := 0) dX8_idle_93 rfl rfl ?_
          refine ex_iadd (z := s.1 + 0) dX8_idle_94 rfl (rfl) ?_
          refine ex_istore_n (ls' := [some (.ref 54), some (.int what), some (.int (s.1 + 0)), some (.int s.2.1), some (.int (nI s.2.2)), some (.int (nI a)), some (.int (nI k)), some (.int (nI n))]) dX8_idle_95 rfl (Nat.le_of_ble_eq_true rfl) rfl rfl ?_
          refine ex_iload dX8_idle_96 rfl rfl ?_
          refine ex_iload dX8_idle_98 rfl rfl ?_
          refine ex_icmp_le (q := 116) (q2 := 103) dX8_idle_100 rfl rfl (fun _ => ?_) (fun hh => absurd (nI_le (a := n) (b := s.2.2) (by omega) (by omega)) hh)
          refine ex_iinc (y := nI (k + 1)) (ls' := [some (.ref 54), some (.int what), some (.int (s.1 + 0)), some (.int s.2.1), some (.int (nI s.2.2)), some (.int (nI a)), some (.int (nI (k + 1))), some (.int (nI n))]) dX8_idle_116 rfl rfl rfl (nI_add k 1) rfl ?_
          refine ex_goto (q := 40) dX8_idle_119 rfl ?_
          exact hE2

set_option maxHeartbeats 2000000 in
theorem l_idleC2 {T : tn_T} {X : gx_T} {P : gt_T} {Im : gi_T} {S : gs_T} (hG : gg_ok (T, X, P, Im, S)) (what : Int32) : ∀ (r k : Nat) (x y : Option Value) (hx : qm_free [none, none, none, none, none, none, y] 7 = true) (s : Int32 × Int32 × Nat) (σ1 : qm_St), k + r = tn_L T → s.2.2 ≤ 20 → CG σ1 (T, X, P, Im, S) → ∃ σ2, CG σ2 (T, X, P, Im, S) ∧ sm σ1 σ2 0 27 0 42 ∧ Ex qm_lay 100 mX8_idle 22 [some (.ref 54), some (.int what), some (.int s.1), some (.int s.2.1), some (.int (nI s.2.2)), some (.int (nI k)), y, x] [] σ1 (some (.int (if what = 0 then (id_out T X r k s).1 else if what = 1 then (id_out T X r k s).2.1 else nI (id_out T X r k s).2.2))) σ2 := by
  intro r
  induction r with
  | zero =>
    intro k x y hx s σ1 hk hs20 hC
    have hT : tn_ok T := hG.1
    have hX : gx_ok X := hG.2.1
    have hP : gt_ok P := hG.2.2.1
    have hI : gi_ok T (gx_n X) Im := hG.2.2.2.1
    have hS : gs_ok S := hG.2.2.2.2.1
    have hw : tn_w T < gx_n X := hG.2.2.2.2.2
    have hL := hT.1
    have hw6 := hT.2.1
    have hu := tn_u_lt hT
    have hX6 := hX.2.1
    have hP6 := hP.1
    have h : TR σ1 9 18 T := hC.1
    refine ⟨σ1, hC, sm.rf _ _ _ _ _, ?_⟩
    refine ex_iload dX8_idle_22 rfl rfl ?_
    refine ex_aload_n dX8_idle_24 rfl rfl ?_
    refine ex_getR (b := 22) dX8_idle_25 rfl qp_7_10 rfl rfl ?_
    refine ex_getI (s := 9) (x := nI (tn_L T)) dX8_idle_28 rfl qp_7_61 rfl rfl (h.1) ?_
    refine ex_icmp_ge (q := 128) (q2 := 34) dX8_idle_31 rfl rfl (fun _ => ?_) (fun hh => absurd (nI_le (by omega) (by omega)) hh)
    refine ex_iload_n dX8_idle_128 rfl rfl ?_
    refine ex_if_ne (q := 136) (q2 := 132) dX8_idle_129 rfl rfl (fun h129 => ?_) (fun h129 => ?_)
    · refine ex_iload_n dX8_idle_136 rfl rfl ?_
      refine ex_iconst (x := 1) dX8_idle_137 rfl rfl ?_
      refine ex_icmp_ne (q := 145) (q2 := 141) dX8_idle_138 rfl rfl (fun h138 => ?_) (fun h138 => ?_)
      · refine ex_iload dX8_idle_145 rfl rfl ?_
        exact ex_iret dX8_idle_147 rfl (by first | rw [if_neg h129, if_neg h138]; rfl | rw [if_neg h129, if_pos (Decidable.not_not.mp h138)]; rfl | rw [if_pos (Decidable.not_not.mp h129)]; rfl) (rfl)
      · refine ex_iload_n dX8_idle_141 rfl rfl ?_
        refine ex_goto (q := 147) dX8_idle_142 rfl ?_
        exact ex_iret dX8_idle_147 rfl (by first | rw [if_neg h129, if_neg h138]; rfl | rw [if_neg h129, if_pos (Decidable.not_not.mp h138)]; rfl | rw [if_pos (Decidable.not_not.mp h129)]; rfl) (rfl)
    · refine ex_iload_n dX8_idle_132 rfl rfl ?_
      refine ex_goto (q := 147) dX8_idle_133 rfl ?_
      exact ex_iret dX8_idle_147 rfl (by first | rw [if_neg h129, if_neg h138]; rfl | rw [if_neg h129, if_pos (Decidable.not_not.mp h138)]; rfl | rw [if_pos (Decidable.not_not.mp h129)]; rfl) (rfl)
  | succ r ih =>
    intro k x y hx s σ1 hk hs20 hC
    have hT : tn_ok T := hG.1
    have hX : gx_ok X := hG.2.1
    have hP : gt_ok P := hG.2.2.1
    have hI : gi_ok T (gx_n X) Im := hG.2.2.2.1
    have hS : gs_ok S := hG.2.2.2.2.1
    have hw : tn_w T < gx_n X := hG.2.2.2.2.2
    have hL := hT.1
    have hw6 := hT.2.1
    have hu := tn_u_lt hT
    have hX6 := hX.2.1
    have hP6 := hP.1
    have h : TR σ1 9 18 T := hC.1
    obtain ⟨σ2, x2, g1, g2, g3⟩ := l_idleC1 hG what (show k < tn_L T by omega) (tn_L T - (k + 1)) (k + 1) x s σ1 (by omega) (by omega) hs20 hC
    obtain ⟨σ3, g4, g5, g6⟩ := ih (k + 1) x2 (some (.int (nI (tn_L T)))) rfl (id_in T X k (tn_L T - (k + 1)) (k + 1) s) σ2 (by omega) (id_in_20 T X k _ _ _ hs20) g1
    refine ⟨σ3, g4, g2.tr g5, ?_⟩
    rw [show id_out T X (r + 1) k s = id_out T X r (k + 1) (id_in T X k (tn_L T - (k + 1)) (k + 1) s) from rfl]
    refine ex_iload dX8_idle_22 rfl rfl ?_
    refine ex_aload_n dX8_idle_24 rfl rfl ?_
    refine ex_getR (b := 22) dX8_idle_25 rfl qp_7_10 rfl rfl ?_
    refine ex_getI (s := 9) (x := nI (tn_L T)) dX8_idle_28 rfl qp_7_61 rfl rfl (h.1) ?_
    refine ex_icmp_ge (q := 128) (q2 := 34) dX8_idle_31 rfl rfl (fun hh => absurd hh (nI_ge (by omega) (by omega))) (fun _ => ?_)
    refine ex_iload dX8_idle_34 rfl rfl ?_
    refine ex_iconst (x := 1) dX8_idle_36 rfl rfl ?_
    refine ex_iadd (z := nI (k + 1)) dX8_idle_37 rfl (nI_add k 1) ?_
    refine ex_istore (ls' := [some (.ref 54), some (.int what), some (.int s.1), some (.int s.2.1), some (.int (nI s.2.2)), some (.int (nI k)), some (.int (nI (k + 1))), x]) dX8_idle_38 rfl (Nat.le_of_ble_eq_true rfl) rfl rfl ?_
    refine g3 _ _ ?_
    refine ex_iinc (y := nI (k + 1)) (ls' := [some (.ref 54), some (.int what), some (.int ((id_in T X k (tn_L T - (k + 1)) (k + 1) s).1)), some (.int ((id_in T X k (tn_L T - (k + 1)) (k + 1) s).2.1)), some (.int (nI ((id_in T X k (tn_L T - (k + 1)) (k + 1) s).2.2))), some (.int (nI (k + 1))), some (.int (nI (tn_L T))), x2]) dX8_idle_122 rfl rfl rfl (nI_add k 1) rfl ?_
    refine ex_goto (q := 22) dX8_idle_125 rfl ?_
    exact g6

theorem m1_le {n : Nat} (h : n < 2 ^ 31) : (-1 : Int32) ≤ nI n := Int32.le_trans (by decide) (nI_pos' h)
set_option maxHeartbeats 2000000 in
theorem l_idleM1 {T : tn_T} {X : gx_T} {P : gt_T} {Im : gi_T} {S : gs_T} (hG : gg_ok (T, X, P, Im, S)) (what : Int32) {a : Nat} (ha : a < tn_L T) : ∀ (r k : Nat) (x : Option Value) (s : Int32 × Int32 × Nat) (σ1 : qm_St), k + r = tn_L T → a < k → s.2.2 ≤ 20 → MG σ1 (T, X, P, Im, S) → ∃ (σ2 : qm_St) (x2 : Option Value), MG σ2 (T, X, P, Im, S) ∧ sm σ1 σ2 27 46 42 62 ∧ ∀ v τ, Ex qm_lay 100 mX9_idle 126 [some (.ref 55), some (.int what), some (.int ((id_in T X a r k s).1)), some (.int ((id_in T X a r k s).2.1)), some (.int (nI ((id_in T X a r k s).2.2))), some (.int (nI a)), some (.int (nI (tn_L T))), x2] [] σ2 v τ → Ex qm_lay 100 mX9_idle 37 [some (.ref 55), some (.int what), some (.int s.1), some (.int s.2.1), some (.int (nI s.2.2)), some (.int (nI a)), some (.int (nI k)), x] [] σ1 v τ := by
  intro r
  induction r with
  | zero =>
    intro k x s σ1 hk hak hs20 hM
    have hT : tn_ok T := hG.1
    have hX : gx_ok X := hG.2.1
    have hP : gt_ok P := hG.2.2.1
    have hI : gi_ok T (gx_n X) Im := hG.2.2.2.1
    have hS : gs_ok S := hG.2.2.2.2.1
    have hw : tn_w T < gx_n X := hG.2.2.2.2.2
    have hL := hT.1
    have hw6 := hT.2.1
    have hu := tn_u_lt hT
    have hX6 := hX.2.1
    have hP6 := hP.1
    have h : MR σ1 T := hM.1
    refine ⟨σ1, x, hM, sm.rf _ _ _ _ _, fun v τ hE => ?_⟩
    refine ex_iload dX9_idle_37 rfl rfl ?_
    refine ex_aload_n dX9_idle_39 rfl rfl ?_
    refine ex_getI (s := 27) (x := nI (tn_L T)) dX9_idle_40 rfl qp_8_78 rfl rfl (h.1.1) ?_
    refine ex_icmp_ge (q := 126) (q2 := 46) dX9_idle_43 rfl rfl (fun _ => ?_) (fun hh => absurd (nI_le (by omega) (by omega)) hh)
    rw [show tn_L T = k by omega] at hE
    exact hE
  | succ r ih =>
    intro k x s σ1 hk hak hs20 hM
    have hT : tn_ok T := hG.1
    have hX : gx_ok X := hG.2.1
    have hP : gt_ok P := hG.2.2.1
    have hI : gi_ok T (gx_n X) Im := hG.2.2.2.1
    have hS : gs_ok S := hG.2.2.2.2.1
    have hw : tn_w T < gx_n X := hG.2.2.2.2.2
    have hL := hT.1
    have hw6 := hT.2.1
    have hu := tn_u_lt hT
    have hX6 := hX.2.1
    have hP6 := hP.1
    have h : MR σ1 T := hM.1
    have hba := tn_b_lt hT ha
    by_cases c1 : (tn_b T a).testBit k = true
    · obtain ⟨σ2, x2, g1, g2, g3⟩ := ih (k + 1) (some (.int (-1))) s σ1 (by omega) (by omega) hs20 hM
      have e1 : id_in T X a (r + 1) k s = id_in T X a r (k + 1) s := by rw [id_in, id_st, if_pos c1]
      rw [e1]
      refine ⟨σ2, x2, g1, g2, fun v τ hE => ?_⟩
      have hE2 := g3 v τ hE
      refine ex_iload dX9_idle_37 rfl rfl ?_
      refine ex_aload_n dX9_idle_39 rfl rfl ?_
      refine ex_getI (s := 27) (x := nI (tn_L T)) dX9_idle_40 rfl qp_8_78 rfl rfl (h.1.1) ?_
      refine ex_icmp_ge (q := 126) (q2 := 46) dX9_idle_43 rfl rfl (fun hh => absurd hh (nI_ge (by omega) (by omega))) (fun _ => ?_)
      refine ex_aload_n dX9_idle_46 rfl rfl ?_
      refine ex_iload dX9_idle_47 rfl rfl ?_
      refine ex_iload dX9_idle_49 rfl rfl ?_
      refine ex_callV (a := 55) (rest := []) dX9_idle_51 rfl qp_8_186 rfl rfl rfl rfl rfl (Nat.le_of_ble_eq_true rfl) (k_areBeside hT h (by omega) (by omega)) (Nat.le_of_ble_eq_true rfl) ?_
      show Ex qm_lay _ mX9_idle 54 [some (.ref 55), some (.int what), some (.int s.1), some (.int s.2.1), some (.int (nI s.2.2)), some (.int (nI a)), some (.int (nI k)), x] [.int (b2i (Nat.testBit (tn_b T a) k))] σ1 _ _
      refine ex_if_eq (q := 61) (q2 := 57) dX9_idle_54 rfl rfl (fun hh => absurd hh (b2i_n0.mpr (c1))) (fun _ => ?_)
      refine ex_iconst (x := (-1)) dX9_idle_57 rfl rfl ?_
      refine ex_goto (q := 69) dX9_idle_58 rfl ?_
      refine ex_istore (ls' := [some (.ref 55), some (.int what), some (.int s.1), some (.int s.2.1), some (.int (nI s.2.2)), some (.int (nI a)), some (.int (nI k)), some (.int (-1))]) dX9_idle_69 rfl (Nat.le_of_ble_eq_true rfl) rfl rfl ?_
      refine ex_iload_n dX9_idle_71 rfl rfl ?_
      refine ex_iload dX9_idle_72 rfl rfl ?_
      refine ex_if_ne (q := 81) (q2 := 77) dX9_idle_74 rfl rfl (fun _ => ?_) (fun hh => absurd (by decide) hh)
      refine ex_iconst (x := 0) dX9_idle_81 rfl rfl ?_
      refine ex_iadd (z := s.1) dX9_idle_82 rfl (Int32.add_zero _) ?_
      refine ex_istore_n (ls' := [some (.ref 55), some (.int what), some (.int s.1), some (.int s.2.1), some (.int (nI s.2.2)), some (.int (nI a)), some (.int (nI k)), some (.int (-1))]) dX9_idle_83 rfl (Nat.le_of_ble_eq_true rfl) rfl rfl ?_
      refine ex_iload dX9_idle_84 rfl rfl ?_
      refine ex_iload dX9_idle_86 rfl rfl ?_
      refine ex_icmp_le (q := 102) (q2 := 91) dX9_idle_88 rfl rfl (fun _ => ?_) (fun hh => absurd (m1_le (by omega)) hh)
      refine ex_iload_n dX9_idle_102 rfl rfl ?_
      refine ex_istore_n (ls' := [some (.ref 55), some (.int what), some (.int s.1), some (.int s.2.1), some (.int (nI s.2.2)), some (.int (nI a)), some (.int (nI k)), some (.int (-1))]) dX9_idle_103 rfl (Nat.le_of_ble_eq_true rfl) rfl rfl ?_
      refine ex_iload dX9_idle_104 rfl rfl ?_
      refine ex_iload dX9_idle_106 rfl rfl ?_
      refine ex_icmp_le (q := 116) (q2 := 111) dX9_idle_108 rfl rfl (fun _ => ?_) (fun hh => absurd (m1_le (by omega)) hh)
      refine ex_iload dX9_idle_116 rfl rfl ?_
      refine ex_istore (ls' := [some (.ref 55), some (.int what), some (.int s.1), some (.int s.2.1), some (.int (nI s.2.2)), some (.int (nI a)), some (.int (nI k)), some (.int (-1))]) dX9_idle_118 rfl (Nat.le_of_ble_eq_true rfl) rfl rfl ?_
      refine ex_iinc (y := nI (k + 1)) (ls' := [some (.ref 55), some (.int what), some (.int s.1), some (.int s.2.1), some (.int (nI s.2.2)), some (.int (nI a)), some (.int (nI (k + 1))), some (.int (-1))]) dX9_idle_120 rfl rfl rfl (nI_add k 1) rfl ?_
      refine ex_goto (q := 37) dX9_idle_123 rfl ?_
      exact hE2
    · obtain ⟨σ3, hO, hR3, hs3⟩ := k_lanesThought hX hT hw h hM.2.1 ha (show k < tn_L T by omega) (show a ≠ k by omega)
      have hG3 := MG.thinkL (G := (T, X, P, Im, S)) hM hR3 (hs3.wid (by omega) (by omega))
      have hs4 : sm σ1 σ3 27 46 42 62 := hs3.sm (by omega) (by omega) (by omega)
      have h20 := (lm_open_L T X a k).2.2.1
      obtain ⟨n, hn⟩ : ∃ n, n = (lm_open T X a k).1 := ⟨_, rfl⟩
      rw [← hn] at hO h20
      have e1 : id_in T X a (r + 1) k s = id_in T X a r (k + 1) (s.1 + (if n = 0 then 1 else 0), if s.2.2 < n then nI (10 * a + k) else s.2.1, if s.2.2 < n then n else s.2.2) := by rw [id_in, id_st, if_neg c1, ← hn]
      rw [e1]
      have c5 : (if s.2.2 < n then n else s.2.2) ≤ 20 := by split <;> omega
      obtain ⟨σ2, x2, g1, g2, g3⟩ := ih (k + 1) (some (.int (nI n))) (s.1 + (if n = 0 then 1 else 0), if s.2.2 < n then nI (10 * a + k) else s.2.1, if s.2.2 < n then n else s.2.2) σ3 (by omega) (by omega) c5 hG3
      refine ⟨σ2, x2, g1, hs4.tr g2, fun v τ hE => ?_⟩
      have hE2 := g3 v τ hE
      by_cases c3 : n = 0
      · simp only [if_pos c3] at hE2
        by_cases c4 : s.2.2 < n
        · simp only [if_pos c4] at hE2
          refine ex_iload dX9_idle_37 rfl rfl ?_
          refine ex_aload_n dX9_idle_39 rfl rfl ?_
          refine ex_getI (s := 27) (x := nI (tn_L T)) dX9_idle_40 rfl qp_8_78 rfl rfl (h.1.1) ?_
          refine ex_icmp_ge (q := 126) (q2 := 46) dX9_idle_43 rfl rfl (fun hh => absurd hh (nI_ge (by omega) (by omega))) (fun _ => ?_)
          refine ex_aload_n dX9_idle_46 rfl rfl ?_
          refine ex_iload dX9_idle_47 rfl rfl ?_
          refine ex_iload dX9_idle_49 rfl rfl ?_
          refine ex_callV (a := 55) (rest := []) dX9_idle_51 rfl qp_8_186 rfl rfl rfl rfl rfl (Nat.le_of_ble_eq_true rfl) (k_areBeside hT h (by omega) (by omega)) (Nat.le_of_ble_eq_true rfl) ?_
          show Ex qm_lay _ mX9_idle 54 [some (.ref 55), some (.int what), some (.int s.1), some (.int s.2.1), some (.int (nI s.2.2)), some (.int (nI a)), some (.int (nI k)), x] [.int (b2i (Nat.testBit (tn_b T a) k))] σ1 _ _
          refine ex_if_eq (q := 61) (q2 := 57) dX9_idle_54 rfl rfl (fun _ => ?_) (fun hh => absurd (b2i_0.mpr (by simpa using c1)) hh)
          refine ex_aload_n dX9_idle_61 rfl rfl ?_
          refine ex_iload dX9_idle_62 rfl rfl ?_
          refine ex_iload dX9_idle_64 rfl rfl ?_
          refine ex_callV (a := 55) (rest := []) dX9_idle_66 rfl qp_8_232 rfl rfl rfl rfl rfl (Nat.le_of_ble_eq_true rfl) (hO) (Nat.le_of_ble_eq_true rfl) ?_
          show Ex qm_lay _ mX9_idle 69 [some (.ref 55), some (.int what), some (.int s.1), some (.int s.2.1), some (.int (nI s.2.2)), some (.int (nI a)), some (.int (nI k)), x] [.int (nI n)] σ3 _ _
          refine ex_istore (ls' := [some (.ref 55), some (.int what), some (.int s.1), some (.int s.2.1), some (.int (nI s.2.2)), some (.int (nI a)), some (.int (nI k)), some (.int (nI n))]) dX9_idle_69 rfl (Nat.le_of_ble_eq_true rfl) rfl rfl ?_
          refine ex_iload_n dX9_idle_71 rfl rfl ?_
          refine ex_iload dX9_idle_72 rfl rfl ?_
          refine ex_if_ne (q := 81) (q2 := 77) dX9_idle_74 rfl rfl (fun hh => absurd hh (fun zz => zz (congrArg nI c3))) (fun _ => ?_)
          refine ex_iconst (x := 1) dX9_idle_77 rfl rfl ?_
          refine ex_goto (q := 82) dX9_idle_78 rfl ?_
          refine ex_iadd (z := s.1 + 1) dX9_idle_82 rfl (rfl) ?_
          refine ex_istore_n (ls' := [some (.ref 55), some (.int what), some (.int (s.1 + 1)), some (.int s.2.1), some (.int (nI s.2.2)), some (.int (nI a)), some (.int (nI k)), some (.int (nI n))]) dX9_idle_83 rfl (Nat.le_of_ble_eq_true rfl) rfl rfl ?_
          refine ex_iload dX9_idle_84 rfl rfl ?_
          refine ex_iload dX9_idle_86 rfl rfl ?_
          refine ex_icmp_le (q := 102) (q2 := 91) dX9_idle_88 rfl rfl (fun hh => absurd hh (nI_ge (a := s.2.2) (b := n) (by omega) (by omega))) (fun _ => ?_)
          refine ex_bipush (x := 10) dX9_idle_91 rfl rfl ?_
          refine ex_iload dX9_idle_93 rfl rfl ?_
          refine ex_imul (z := nI (10 * a)) dX9_idle_95 rfl (pk_mul 10 a) ?_
          refine ex_iload dX9_idle_96 rfl rfl ?_
          refine ex_iadd (z := nI ((10 * a) + k)) dX9_idle_98 rfl (nI_add (10 * a) k) ?_
          refine ex_goto (q := 103) dX9_idle_99 rfl ?_
          refine ex_istore_n (ls' := [some (.ref 55), some (.int what), some (.int (s.1 + 1)), some (.int (nI ((10 * a) + k))), some (.int (nI s.2.2)), some (.int (nI a)), some (.int (nI k)), some (.int (nI n))]) dX9_idle_103 rfl (Nat.le_of_ble_eq_true rfl) rfl rfl ?_
          refine ex_iload dX9_idle_104 rfl rfl ?_
          refine ex_iload dX9_idle_106 rfl rfl ?_
          refine ex_icmp_le (q := 116) (q2 := 111) dX9_idle_108 rfl rfl (fun hh => absurd hh (nI_ge (a := s.2.2) (b := n) (by omega) (by omega))) (fun _ => ?_)
          refine ex_iload dX9_idle_111 rfl rfl ?_
          refine ex_goto (q := 118) dX9_idle_113 rfl ?_
          refine ex_istore (ls' := [some (.ref 55), some (.int what), some (.int (s.1 + 1)), some (.int (nI ((10 * a) + k))), some (.int (nI n)), some (.int (nI a)), some (.int (nI k)), some (.int (nI n))]) dX9_idle_118 rfl (Nat.le_of_ble_eq_true rfl) rfl rfl ?_
          refine ex_iinc (y := nI (k + 1)) (ls' := [some (.ref 55), some (.int what), some (.int (s.1 + 1)), some (.int (nI ((10 * a) + k))), some (.int (nI n)), some (.int (nI a)), some (.int (nI (k + 1))), some (.int (nI n))]) dX9_idle_120 rfl rfl rfl (nI_add k 1) rfl ?_
          refine ex_goto (q := 37) dX9_idle_123 rfl ?_
          exact hE2
        · simp only [if_neg c4] at hE2
          refine ex_iload dX9_idle_37 rfl rfl ?_
          refine ex_aload_n dX9_idle_39 rfl rfl ?_
          refine ex_getI (s := 27) (x := nI (tn_L T)) dX9_idle_40 rfl qp_8_78 rfl rfl (h.1.1) ?_
          refine ex_icmp_ge (q := 126) (q2 := 46) dX9_idle_43 rfl rfl (fun hh => absurd hh (nI_ge (by omega) (by omega))) (fun _ => ?_)
          refine ex_aload_n dX9_idle_46 rfl rfl ?_
          refine ex_iload dX9_idle_47 rfl rfl ?_
          refine ex_iload dX9_idle_49 rfl rfl ?_
          refine ex_callV (a := 55) (rest := []) dX9_idle_51 rfl qp_8_186 rfl rfl rfl rfl rfl (Nat.le_of_ble_eq_true rfl) (k_areBeside hT h (by omega) (by omega)) (Nat.le_of_ble_eq_true rfl) ?_
          show Ex qm_lay _ mX9_idle 54 [some (.ref 55), some (.int what), some (.int s.1), some (.int s.2.1), some (.int (nI s.2.2)), some (.int (nI a)), some (.int (nI k)), x] [.int (b2i (Nat.testBit (tn_b T a) k))] σ1 _ _
          refine ex_if_eq (q := 61) (q2 := 57) dX9_idle_54 rfl rfl (fun _ => ?_) (fun hh => absurd (b2i_0.mpr (by simpa using c1)) hh)
          refine ex_aload_n dX9_idle_61 rfl rfl ?_
          refine ex_iload dX9_idle_62 rfl rfl ?_
          refine ex_iload dX9_idle_64 rfl rfl ?_
          refine ex_callV (a := 55) (rest := []) dX9_idle_66 rfl qp_8_232 rfl rfl rfl rfl rfl (Nat.le_of_ble_eq_true rfl) (hO) (Nat.le_of_ble_eq_true rfl) ?_
          show Ex qm_lay _ mX9_idle 69 [some (.ref 55), some (.int what), some (.int s.1), some (.int s.2.1), some (.int (nI s.2.2)), some (.int (nI a)), some (.int (nI k)), x] [.int (nI n)] σ3 _ _
          refine ex_istore (ls' := [some (.ref 55), some (.int what), some (.int s.1), some (.int s.2.1), some (.int (nI s.2.2)), some (.int (nI a)), some (.int (nI k)), some (.int (nI n))]) dX9_idle_69 rfl (Nat.le_of_ble_eq_true rfl) rfl rfl ?_
          refine ex_iload_n dX9_idle_71 rfl rfl ?_
          refine ex_iload dX9_idle_72 rfl rfl ?_
          refine ex_if_ne (q := 81) (q2 := 77) dX9_idle_74 rfl rfl (fun hh => absurd hh (fun zz => zz (congrArg nI c3))) (fun _ => ?_)
          refine ex_iconst (x := 1) dX9_idle_77 rfl rfl ?_
          refine ex_goto (q := 82) dX9_idle_78 rfl ?_
          refine ex_iadd (z := s.1 + 1) dX9_idle_82 rfl (rfl) ?_
          refine ex_istore_n (ls' := [some (.ref 55), some (.int what), some (.int (s.1 + 1)), some (.int s.2.1), some (.int (nI s.2.2)), some (.int (nI a)), some (.int (nI k)), some (.int (nI n))]) dX9_idle_83 rfl (Nat.le_of_ble_eq_true rfl) rfl rfl ?_
          refine ex_iload dX9_idle_84 rfl rfl ?_
          refine ex_iload dX9_idle_86 rfl rfl ?_
          refine ex_icmp_le (q := 102) (q2 := 91) dX9_idle_88 rfl rfl (fun _ => ?_) (fun hh => absurd (nI_le (a := n) (b := s.2.2) (by omega) (by omega)) hh)
          refine ex_iload_n dX9_idle_102 rfl rfl ?_
          refine ex_istore_n (ls' := [some (.ref 55), some (.int what), some (.int (s.1 + 1)), some (.int s.2.1), some (.int (nI s.2.2)), some (.int (nI a)), some (.int (nI k)), some (.int (nI n))]) dX9_idle_103 rfl (Nat.le_of_ble_eq_true rfl) rfl rfl ?_
          refine ex_iload dX9_idle_104 rfl rfl ?_
          refine ex_iload dX9_idle_106 rfl rfl ?_
          refine ex_icmp_le (q := 116) (q2 := 111) dX9_idle_108 rfl rfl (fun _ => ?_) (fun hh => absurd (nI_le (a := n) (b := s.2.2) (by omega) (by omega)) hh)
          refine ex_iload dX9_idle_116 rfl rfl ?_
          refine ex_istore (ls' := [some (.ref 55), some (.int what), some (.int (s.1 + 1)), some (.int s.2.1), some (.int (nI s.2.2)), some (.int (nI a)), some (.int (nI k)), some (.int (nI n))]) dX9_idle_118 rfl (Nat.le_of_ble_eq_true rfl) rfl rfl ?_
          refine ex_iinc (y := nI (k + 1)) (ls' := [some (.ref 55), some (.int what), some (.int (s.1 + 1)), some (.int s.2.1), some (.int (nI s.2.2)), some (.int (nI a)), some (.int (nI (k + 1))), some (.int (nI n))]) dX9_idle_120 rfl rfl rfl (nI_add k 1) rfl ?_
          refine ex_goto (q := 37) dX9_idle_123 rfl ?_
          exact hE2
      · simp only [if_neg c3] at hE2
        by_cases c4 : s.2.2 < n
        · simp only [if_pos c4] at hE2
          refine ex_iload dX9_idle_37 rfl rfl ?_
          refine ex_aload_n dX9_idle_39 rfl rfl ?_
          refine ex_getI (s := 27) (x := nI (tn_L T)) dX9_idle_40 rfl qp_8_78 rfl rfl (h.1.1) ?_
          refine ex_icmp_ge (q := 126) (q2 := 46) dX9_idle_43 rfl rfl (fun hh => absurd hh (nI_ge (by omega) (by omega))) (fun _ => ?_)
          refine ex_aload_n dX9_idle_46 rfl rfl ?_
          refine ex_iload dX9_idle_47 rfl rfl ?_
          refine ex_iload dX9_idle_49 rfl rfl ?_
          refine ex_callV (a := 55) (rest := []) dX9_idle_51 rfl qp_8_186 rfl rfl rfl rfl rfl (Nat.le_of_ble_eq_true rfl) (k_areBeside hT h (by omega) (by omega)) (Nat.le_of_ble_eq_true rfl) ?_
          show Ex qm_lay _ mX9_idle 54 [some (.ref 55), some (.int what), some (.int s.1), some (.int s.2.1), some (.int (nI s.2.2)), some (.int (nI a)), some (.int (nI k)), x] [.int (b2i (Nat.testBit (tn_b T a) k))] σ1 _ _
          refine ex_if_eq (q := 61) (q2 := 57) dX9_idle_54 rfl rfl (fun _ => ?_) (fun hh => absurd (b2i_0.mpr (by simpa using c1)) hh)
          refine ex_aload_n dX9_idle_61 rfl rfl ?_
          refine ex_iload dX9_idle_62 rfl rfl ?_
          refine ex_iload dX9_idle_64 rfl rfl ?_
          refine ex_callV (a := 55) (rest := []) dX9_idle_66 rfl qp_8_232 rfl rfl rfl rfl rfl (Nat.le_of_ble_eq_true rfl) (hO) (Nat.le_of_ble_eq_true rfl) ?_
          show Ex qm_lay _ mX9_idle 69 [some (.ref 55), some (.int what), some (.int s.1), some (.int s.2.1), some (.int (nI s.2.2)), some (.int (nI a)), some (.int (nI k)), x] [.int (nI n)] σ3 _ _
          refine ex_istore (ls' := [some (.ref 55), some (.int what), some (.int s.1), some (.int s.2.1), some (.int (nI s.2.2)), some (.int (nI a)), some (.int (nI k)), some (.int (nI n))]) dX9_idle_69 rfl (Nat.le_of_ble_eq_true rfl) rfl rfl ?_
          refine ex_iload_n dX9_idle_71 rfl rfl ?_
          refine ex_iload dX9_idle_72 rfl rfl ?_
          refine ex_if_ne (q := 81) (q2 := 77) dX9_idle_74 rfl rfl (fun _ => ?_) (fun hh => absurd (fun zz => c3 ((nI_eq (a := n) (b := 0) (by omega) (by decide)).mp zz)) hh)
          refine ex_iconst (x := 0) dX9_idle_81 rfl rfl ?_
          refine ex_iadd (z := s.1 + 0) dX9_idle_82 rfl (rfl) ?_
          refine ex_istore_n (ls' := [some (.ref 55), some (.int what), some (.int (s.1 + 0)), some (.int s.2.1), some (.int (nI s.2.2)), some (.int (nI a)), some (.int (nI k)), some (.int (nI n))]) dX9_idle_83 rfl (Nat.le_of_ble_eq_true rfl) rfl rfl ?_
          refine ex_iload dX9_idle_84 rfl rfl ?_
          refine ex_iload dX9_idle_86 rfl rfl ?_
          refine ex_icmp_le (q := 102) (q2 := 91) dX9_idle_88 rfl rfl (fun hh => absurd hh (nI_ge (a := s.2.2) (b := n) (by omega) (by omega))) (fun _ => ?_)
          refine ex_bipush (x := 10) dX9_idle_91 rfl rfl ?_
          refine ex_iload dX9_idle_93 rfl rfl ?_
          refine ex_imul (z := nI (10 * a)) dX9_idle_95 rfl (pk_mul 10 a) ?_
          refine ex_iload dX9_idle_96 rfl rfl ?_
          refine ex_iadd (z := nI ((10 * a) + k)) dX9_idle_98 rfl (nI_add (10 * a) k) ?_
          refine ex_goto (q := 103) dX9_idle_99 rfl ?_
          refine ex_istore_n (ls' := [some (.ref 55), some (.int what), some (.int (s.1 + 0)), some (.int (nI ((10 * a) + k))), some (.int (nI s.2.2)), some (.int (nI a)), some (.int (nI k)), some (.int (nI n))]) dX9_idle_103 rfl (Nat.le_of_ble_eq_true rfl) rfl rfl ?_
          refine ex_iload dX9_idle_104 rfl rfl ?_
          refine ex_iload dX9_idle_106 rfl rfl ?_
          refine ex_icmp_le (q := 116) (q2 := 111) dX9_idle_108 rfl rfl (fun hh => absurd hh (nI_ge (a := s.2.2) (b := n) (by omega) (by omega))) (fun _ => ?_)
          refine ex_iload dX9_idle_111 rfl rfl ?_
          refine ex_goto (q := 118) dX9_idle_113 rfl ?_
          refine ex_istore (ls' := [some (.ref 55), some (.int what), some (.int (s.1 + 0)), some (.int (nI ((10 * a) + k))), some (.int (nI n)), some (.int (nI a)), some (.int (nI k)), some (.int (nI n))]) dX9_idle_118 rfl (Nat.le_of_ble_eq_true rfl) rfl rfl ?_
          refine ex_iinc (y := nI (k + 1)) (ls' := [some (.ref 55), some (.int what), some (.int (s.1 + 0)), some (.int (nI ((10 * a) + k))), some (.int (nI n)), some (.int (nI a)), some (.int (nI (k + 1))), some (.int (nI n))]) dX9_idle_120 rfl rfl rfl (nI_add k 1) rfl ?_
          refine ex_goto (q := 37) dX9_idle_123 rfl ?_
          exact hE2
        · simp only [if_neg c4] at hE2
          refine ex_iload dX9_idle_37 rfl rfl ?_
          refine ex_aload_n dX9_idle_39 rfl rfl ?_
          refine ex_getI (s := 27) (x := nI (tn_L T)) dX9_idle_40 rfl qp_8_78 rfl rfl (h.1.1) ?_
          refine ex_icmp_ge (q := 126) (q2 := 46) dX9_idle_43 rfl rfl (fun hh => absurd hh (nI_ge (by omega) (by omega))) (fun _ => ?_)
          refine ex_aload_n dX9_idle_46 rfl rfl ?_
          refine ex_iload dX9_idle_47 rfl rfl ?_
          refine ex_iload dX9_idle_49 rfl rfl ?_
          refine ex_callV (a := 55) (rest := []) dX9_idle_51 rfl qp_8_186 rfl rfl rfl rfl rfl (Nat.le_of_ble_eq_true rfl) (k_areBeside hT h (by omega) (by omega)) (Nat.le_of_ble_eq_true rfl) ?_
          show Ex qm_lay _ mX9_idle 54 [some (.ref 55), some (.int what), some (.int s.1), some (.int s.2.1), some (.int (nI s.2.2)), some (.int (nI a)), some (.int (nI k)), x] [.int (b2i (Nat.testBit (tn_b T a) k))] σ1 _ _
          refine ex_if_eq (q := 61) (q2 := 57) dX9_idle_54 rfl rfl (fun _ => ?_) (fun hh => absurd (b2i_0.mpr (by simpa using c1)) hh)
          refine ex_aload_n dX9_idle_61 rfl rfl ?_
          refine ex_iload dX9_idle_62 rfl rfl ?_
          refine ex_iload dX9_idle_64 rfl rfl ?_
          refine ex_callV (a := 55) (rest := []) dX9_idle_66 rfl qp_8_232 rfl rfl rfl rfl rfl (Nat.le_of_ble_eq_true rfl) (hO) (Nat.le_of_ble_eq_true rfl) ?_
          show Ex qm_lay _ mX9_idle 69 [some (.ref 55), some (.int what), some (.int s.1), some (.int s.2.1), some (.int (nI s.2.2)), some (.int (nI a)), some (.int (nI k)), x] [.int (nI n)] σ3 _ _
          refine ex_istore (ls' := [some (.ref 55), some (.int what), some (.int s.1), some (.int s.2.1), some (.int (nI s.2.2)), some (.int (nI a)), some (.int (nI k)), some (.int (nI n))]) dX9_idle_69 rfl (Nat.le_of_ble_eq_true rfl) rfl rfl ?_
          refine ex_iload_n dX9_idle_71 rfl rfl ?_
          refine ex_iload dX9_idle_72 rfl rfl ?_
          refine ex_if_ne (q := 81) (q2 := 77) dX9_idle_74 rfl rfl (fun _ => ?_) (fun hh => absurd (fun zz => c3 ((nI_eq (a := n) (b := 0) (by omega) (by decide)).mp zz)) hh)
          refine ex_iconst (x := 0) dX9_idle_81 rfl rfl ?_
          refine ex_iadd (z := s.1 + 0) dX9_idle_82 rfl (rfl) ?_
          refine ex_istore_n (ls' := [some (.ref 55), some (.int what), some (.int (s.1 + 0)), some (.int s.2.1), some (.int (nI s.2.2)), some (.int (nI a)), some (.int (nI k)), some (.int (nI n))]) dX9_idle_83 rfl (Nat.le_of_ble_eq_true rfl) rfl rfl ?_
          refine ex_iload dX9_idle_84 rfl rfl ?_
          refine ex_iload dX9_idle_86 rfl rfl ?_
          refine ex_icmp_le (q := 102) (q2 := 91) dX9_idle_88 rfl rfl (fun _ => ?_) (fun hh => absurd (nI_le (a := n) (b := s.2.2) (by omega) (by omega)) hh)
          refine ex_iload_n dX9_idle_102 rfl rfl ?_
          refine ex_istore_n (ls' := [some (.ref 55), some (.int what), some (.int (s.1 + 0)), some (.int s.2.1), some (.int (nI s.2.2)), some (.int (nI a)), some (.int (nI k)), some (.int (nI n))]) dX9_idle_103 rfl (Nat.le_of_ble_eq_true rfl) rfl rfl ?_
          refine ex_iload dX9_idle_104 rfl rfl ?_
          refine ex_iload dX9_idle_106 rfl rfl ?_
          refine ex_icmp_le (q := 116) (q2 := 111) dX9_idle_108 rfl rfl (fun _ => ?_) (fun hh => absurd (nI_le (a := n) (b := s.2.2) (by omega) (by omega)) hh)
          refine ex_iload dX9_idle_116 rfl rfl ?_
          refine ex_istore (ls' := [some (.ref 55), some (.int what), some (.int (s.1 + 0)), some (.int s.2.1), some (.int (nI s.2.2)), some (.int (nI a)), some (.int (nI k)), some (.int (nI n))]) dX9_idle_118 rfl (Nat.le_of_ble_eq_true rfl) rfl rfl ?_
          refine ex_iinc (y := nI (k + 1)) (ls' := [some (.ref 55), some (.int what), some (.int (s.1 + 0)), some (.int s.2.1), some (.int (nI s.2.2)), some (.int (nI a)), some (.int (nI (k + 1))), some (.int (nI n))]) dX9_idle_120 rfl rfl rfl (nI_add k 1) rfl ?_
          refine ex_goto (q := 37) dX9_idle_123 rfl ?_
          exact hE2

set_option maxHeartbeats 2000000 in
theorem l_idleM2 {T : tn_T} {X : gx_T} {P : gt_T} {Im : gi_T} {S : gs_T} (hG : gg_ok (T, X, P, Im, S)) (what : Int32) : ∀ (r k : Nat) (x y : Option Value) (hx : qm_free [none, none, none, none, none, none, y] 7 = true) (s : Int32 × Int32 × Nat) (σ1 : qm_St), k + r = tn_L T → s.2.2 ≤ 20 → MG σ1 (T, X, P, Im, S) → ∃ σ2, MG σ2 (T, X, P, Im, S) ∧ sm σ1 σ2 27 46 42 62 ∧ Ex qm_lay 100 mX9_idle 22 [some (.ref 55), some (.int what), some (.int s.1), some (.int s.2.1), some (.int (nI s.2.2)), some (.int (nI k)), y, x] [] σ1 (some (.int (if what = 0 then (id_out T X r k s).1 else if what = 1 then (id_out T X r k s).2.1 else nI (id_out T X r k s).2.2))) σ2 := by
  intro r
  induction r with
  | zero =>
    intro k x y hx s σ1 hk hs20 hM
    have hT : tn_ok T := hG.1
    have hX : gx_ok X := hG.2.1
    have hP : gt_ok P := hG.2.2.1
    have hI : gi_ok T (gx_n X) Im := hG.2.2.2.1
    have hS : gs_ok S := hG.2.2.2.2.1
    have hw : tn_w T < gx_n X := hG.2.2.2.2.2
    have hL := hT.1
    have hw6 := hT.2.1
    have hu := tn_u_lt hT
    have hX6 := hX.2.1
    have hP6 := hP.1
    have h : MR σ1 T := hM.1
    refine ⟨σ1, hM, sm.rf _ _ _ _ _, ?_⟩
    refine ex_iload dX9_idle_22 rfl rfl ?_
    refine ex_aload_n dX9_idle_24 rfl rfl ?_
    refine ex_getI (s := 27) (x := nI (tn_L T)) dX9_idle_25 rfl qp_8_78 rfl rfl (h.1.1) ?_
    refine ex_icmp_ge (q := 132) (q2 := 31) dX9_idle_28 rfl rfl (fun _ => ?_) (fun hh => absurd (nI_le (by omega) (by omega)) hh)
    refine ex_iload_n dX9_idle_132 rfl rfl ?_
    refine ex_if_ne (q := 140) (q2 := 136) dX9_idle_133 rfl rfl (fun h133 => ?_) (fun h133 => ?_)
    · refine ex_iload_n dX9_idle_140 rfl rfl ?_
      refine ex_iconst (x := 1) dX9_idle_141 rfl rfl ?_
      refine ex_icmp_ne (q := 149) (q2 := 145) dX9_idle_142 rfl rfl (fun h142 => ?_) (fun h142 => ?_)
      · refine ex_iload dX9_idle_149 rfl rfl ?_
        exact ex_iret dX9_idle_151 rfl (by first | rw [if_neg h133, if_neg h142]; rfl | rw [if_neg h133, if_pos (Decidable.not_not.mp h142)]; rfl | rw [if_pos (Decidable.not_not.mp h133)]; rfl) (rfl)
      · refine ex_iload_n dX9_idle_145 rfl rfl ?_
        refine ex_goto (q := 151) dX9_idle_146 rfl ?_
        exact ex_iret dX9_idle_151 rfl (by first | rw [if_neg h133, if_neg h142]; rfl | rw [if_neg h133, if_pos (Decidable.not_not.mp h142)]; rfl | rw [if_pos (Decidable.not_not.mp h133)]; rfl) (rfl)
    · refine ex_iload_n dX9_idle_136 rfl rfl ?_
      refine ex_goto (q := 151) dX9_idle_137 rfl ?_
      exact ex_iret dX9_idle_151 rfl (by first | rw [if_neg h133, if_neg h142]; rfl | rw [if_neg h133, if_pos (Decidable.not_not.mp h142)]; rfl | rw [if_pos (Decidable.not_not.mp h133)]; rfl) (rfl)
  | succ r ih =>
    intro k x y hx s σ1 hk hs20 hM
    have hT : tn_ok T := hG.1
    have hX : gx_ok X := hG.2.1
    have hP : gt_ok P := hG.2.2.1
    have hI : gi_ok T (gx_n X) Im := hG.2.2.2.1
    have hS : gs_ok S := hG.2.2.2.2.1
    have hw : tn_w T < gx_n X := hG.2.2.2.2.2
    have hL := hT.1
    have hw6 := hT.2.1
    have hu := tn_u_lt hT
    have hX6 := hX.2.1
    have hP6 := hP.1
    have h : MR σ1 T := hM.1
    obtain ⟨σ2, x2, g1, g2, g3⟩ := l_idleM1 hG what (show k < tn_L T by omega) (tn_L T - (k + 1)) (k + 1) x s σ1 (by omega) (by omega) hs20 hM
    obtain ⟨σ3, g4, g5, g6⟩ := ih (k + 1) x2 (some (.int (nI (tn_L T)))) rfl (id_in T X k (tn_L T - (k + 1)) (k + 1) s) σ2 (by omega) (id_in_20 T X k _ _ _ hs20) g1
    refine ⟨σ3, g4, g2.tr g5, ?_⟩
    rw [show id_out T X (r + 1) k s = id_out T X r (k + 1) (id_in T X k (tn_L T - (k + 1)) (k + 1) s) from rfl]
    refine ex_iload dX9_idle_22 rfl rfl ?_
    refine ex_aload_n dX9_idle_24 rfl rfl ?_
    refine ex_getI (s := 27) (x := nI (tn_L T)) dX9_idle_25 rfl qp_8_78 rfl rfl (h.1.1) ?_
    refine ex_icmp_ge (q := 132) (q2 := 31) dX9_idle_28 rfl rfl (fun hh => absurd hh (nI_ge (by omega) (by omega))) (fun _ => ?_)
    refine ex_iload dX9_idle_31 rfl rfl ?_
    refine ex_iconst (x := 1) dX9_idle_33 rfl rfl ?_
    refine ex_iadd (z := nI (k + 1)) dX9_idle_34 rfl (nI_add k 1) ?_
    refine ex_istore (ls' := [some (.ref 55), some (.int what), some (.int s.1), some (.int s.2.1), some (.int (nI s.2.2)), some (.int (nI k)), some (.int (nI (k + 1))), x]) dX9_idle_35 rfl (Nat.le_of_ble_eq_true rfl) rfl rfl ?_
    refine g3 _ _ ?_
    refine ex_iinc (y := nI (k + 1)) (ls' := [some (.ref 55), some (.int what), some (.int ((id_in T X k (tn_L T - (k + 1)) (k + 1) s).1)), some (.int ((id_in T X k (tn_L T - (k + 1)) (k + 1) s).2.1)), some (.int (nI ((id_in T X k (tn_L T - (k + 1)) (k + 1) s).2.2))), some (.int (nI (k + 1))), some (.int (nI (tn_L T))), x2]) dX9_idle_126 rfl rfl rfl (nI_add k 1) rfl ?_
    refine ex_goto (q := 22) dX9_idle_129 rfl ?_
    exact g6

set_option maxHeartbeats 2000000 in
theorem j_idle {T : tn_T} {X : gx_T} {P : gt_T} {Im : gi_T} {S : gs_T} (hG : gg_ok (T, X, P, Im, S)) (w : Int32) : J mX8_idle mX9_idle [.int w] (T, X, P, Im, S) := by
  have hT : tn_ok T := hG.1
  have hX : gx_ok X := hG.2.1
  have hP : gt_ok P := hG.2.2.1
  have hI : gi_ok T (gx_n X) Im := hG.2.2.2.1
  have hS : gs_ok S := hG.2.2.2.2.1
  have hw : tn_w T < gx_n X := hG.2.2.2.2.2
  have hL := hT.1
  have hw6 := hT.2.1
  have hu := tn_u_lt hT
  have hX6 := hX.2.1
  have hP6 := hP.1
  by_cases c1 : tn_in w 0 2 = true
  · have c2 := of_decide_eq_true c1
    refine J.u (.int (if w = 0 then (id_out T X (tn_L T) 0 (0, -1, 0)).1 else if w = 1 then (id_out T X (tn_L T) 0 (0, -1, 0)).2.1 else nI (id_out T X (tn_L T) 0 (0, -1, 0)).2.2)) (T, X, P, Im, S) hG (fun σ hC => ?_) (fun σ hM => ?_)
    · have h : TR σ 9 18 T := hC.1
      obtain ⟨σ', g1, g2, hE⟩ := l_idleC2 hG w (tn_L T) 0 none none rfl (0, -1, 0) σ (by omega) (by decide) hC
      refine ⟨σ', ?_, g1, g2⟩
      refine Ok.of (ls := [some (.ref 54), some (.int w), none, none, none, none, none, none]) (Nat.le_of_ble_eq_true rfl) rfl ?_
      refine ex_iload_n dX8_idle_0 rfl rfl ?_
      refine ex_if_lt (q := 9) (q2 := 4) dX8_idle_1 rfl rfl (fun hh => absurd hh (Int32.not_lt.mpr c2.1)) (fun _ => ?_)
      refine ex_iload_n dX8_idle_4 rfl rfl ?_
      refine ex_iconst (x := 2) dX8_idle_5 rfl rfl ?_
      refine ex_icmp_le (q := 12) (q2 := 9) dX8_idle_6 rfl rfl (fun _ => ?_) (fun hh => absurd (c2.2) hh)
      refine ex_iconst (x := 0) dX8_idle_12 rfl rfl ?_
      refine ex_istore_n (ls' := [some (.ref 54), some (.int w), some (.int 0), none, none, none, none, none]) dX8_idle_13 rfl (Nat.le_of_ble_eq_true rfl) rfl rfl ?_
      refine ex_iconst (x := (-1)) dX8_idle_14 rfl rfl ?_
      refine ex_istore_n (ls' := [some (.ref 54), some (.int w), some (.int 0), some (.int (-1)), none, none, none, none]) dX8_idle_15 rfl (Nat.le_of_ble_eq_true rfl) rfl rfl ?_
      refine ex_iconst (x := 0) dX8_idle_16 rfl rfl ?_
      refine ex_istore (ls' := [some (.ref 54), some (.int w), some (.int 0), some (.int (-1)), some (.int 0), none, none, none]) dX8_idle_17 rfl (Nat.le_of_ble_eq_true rfl) rfl rfl ?_
      refine ex_iconst (x := 0) dX8_idle_19 rfl rfl ?_
      refine ex_istore (ls' := [some (.ref 54), some (.int w), some (.int 0), some (.int (-1)), some (.int 0), some (.int 0), none, none]) dX8_idle_20 rfl (Nat.le_of_ble_eq_true rfl) rfl rfl ?_
      exact hE
    · have h : MR σ T := hM.1
      obtain ⟨σ', g1, g2, hE⟩ := l_idleM2 hG w (tn_L T) 0 none none rfl (0, -1, 0) σ (by omega) (by decide) hM
      refine ⟨σ', ?_, g1, g2⟩
      refine Ok.of (ls := [some (.ref 55), some (.int w), none, none, none, none, none, none]) (Nat.le_of_ble_eq_true rfl) rfl ?_
      refine ex_iload_n dX9_idle_0 rfl rfl ?_
      refine ex_iconst (x := 0) dX9_idle_1 rfl rfl ?_
      refine ex_iconst (x := 2) dX9_idle_2 rfl rfl ?_
      refine ex_callS (rest := []) dX9_idle_3 rfl qp_8_81 rfl rfl rfl (Nat.le_of_ble_eq_true rfl) (k_in _ _ _ _) (Nat.le_of_ble_eq_true rfl) ?_
      show Ex qm_lay _ mX9_idle 6 [some (.ref 55), some (.int w), none, none, none, none, none, none] [.int (b2i (tn_in w 0 2))] σ _ _
      refine ex_if_ne (q := 12) (q2 := 9) dX9_idle_6 rfl rfl (fun _ => ?_) (fun hh => absurd (b2i_n0.mpr (c1)) hh)
      refine ex_iconst (x := 0) dX9_idle_12 rfl rfl ?_
      refine ex_istore_n (ls' := [some (.ref 55), some (.int w), some (.int 0), none, none, none, none, none]) dX9_idle_13 rfl (Nat.le_of_ble_eq_true rfl) rfl rfl ?_
      refine ex_iconst (x := (-1)) dX9_idle_14 rfl rfl ?_
      refine ex_istore_n (ls' := [some (.ref 55), some (.int w), some (.int 0), some (.int (-1)), none, none, none, none]) dX9_idle_15 rfl (Nat.le_of_ble_eq_true rfl) rfl rfl ?_
      refine ex_iconst (x := 0) dX9_idle_16 rfl rfl ?_
      refine ex_istore (ls' := [some (.ref 55), some (.int w), some (.int 0), some (.int (-1)), some (.int 0), none, none, none]) dX9_idle_17 rfl (Nat.le_of_ble_eq_true rfl) rfl rfl ?_
      refine ex_iconst (x := 0) dX9_idle_19 rfl rfl ?_
      refine ex_istore (ls' := [some (.ref 55), some (.int w), some (.int 0), some (.int (-1)), some (.int 0), some (.int 0), none, none]) dX9_idle_20 rfl (Nat.le_of_ble_eq_true rfl) rfl rfl ?_
      exact hE
  · refine J.q hG (.int (-2)) (fun σ hC => ?_) (fun σ hM => ?_)
    · have h : TR σ 9 18 T := hC.1
      refine Ok.of (ls := [some (.ref 54), some (.int w), none, none, none, none, none, none]) (Nat.le_of_ble_eq_true rfl) rfl ?_
      refine ex_iload_n dX8_idle_0 rfl rfl ?_
      refine ex_if_lt (q := 9) (q2 := 4) dX8_idle_1 rfl rfl (fun h1 => ?_) (fun h1 => ?_)
      · refine ex_bipush (x := (-2)) dX8_idle_9 rfl rfl ?_
        exact ex_iret dX8_idle_11 rfl rfl rfl
      · refine ex_iload_n dX8_idle_4 rfl rfl ?_
        refine ex_iconst (x := 2) dX8_idle_5 rfl rfl ?_
        refine ex_icmp_le (q := 12) (q2 := 9) dX8_idle_6 rfl rfl (fun h6 => ?_) (fun h6 => ?_)
        · exact absurd (decide_eq_true ⟨Int32.not_lt.mp h1, h6⟩) c1
        · refine ex_bipush (x := (-2)) dX8_idle_9 rfl rfl ?_
          exact ex_iret dX8_idle_11 rfl rfl rfl
    · have h : MR σ T := hM.1
      refine Ok.of (ls := [some (.ref 55), some (.int w), none, none, none, none, none, none]) (Nat.le_of_ble_eq_true rfl) rfl ?_
      refine ex_iload_n dX9_idle_0 rfl rfl ?_
      refine ex_iconst (x := 0) dX9_idle_1 rfl rfl ?_
      refine ex_iconst (x := 2) dX9_idle_2 rfl rfl ?_
      refine ex_callS (rest := []) dX9_idle_3 rfl qp_8_81 rfl rfl rfl (Nat.le_of_ble_eq_true rfl) (k_in _ _ _ _) (Nat.le_of_ble_eq_true rfl) ?_
      show Ex qm_lay _ mX9_idle 6 [some (.ref 55), some (.int w), none, none, none, none, none, none] [.int (b2i (tn_in w 0 2))] σ _ _
      refine ex_if_ne (q := 12) (q2 := 9) dX9_idle_6 rfl rfl (fun hh => absurd hh (fun zz => zz (b2i_0.mpr (by simpa using c1)))) (fun _ => ?_)
      refine ex_bipush (x := (-2)) dX9_idle_9 rfl rfl ?_
      exact ex_iret dX9_idle_11 rfl rfl rfl

set_option maxHeartbeats 2000000 in
theorem l_lawsC {T : tn_T} {X : gx_T} {P : gt_T} {Im : gi_T} {S : gs_T} (hG : gg_ok (T, X, P, Im, S)) {a b m : Nat} (ha : a < tn_L T) (hb : b < tn_L T) (hab : a ≠ b) (hm : m ≤ 20) : ∀ (r k : Nat) (σ1 : qm_St), k + r = gx_n X → CG σ1 (T, X, P, Im, S) → ∃ σ2, CG σ2 (T, X, P, Im, S) ∧ sm σ1 σ2 0 27 0 42 ∧ ∀ v τ, Ex qm_lay 100 mX8_laws 74 [some (.ref 54), some (.int (nI a)), some (.int (nI b)), some (.int (nI m)), some (.int 0), some (.int (nI (lw_b T X a b m (gx_n X)))), some (.int (nI (gx_n X)))] [] σ2 v τ → Ex qm_lay 100 mX8_laws 35 [some (.ref 54), some (.int (nI a)), some (.int (nI b)), some (.int (nI m)), some (.int 0), some (.int (nI (lw_b T X a b m k))), some (.int (nI k))] [] σ1 v τ := by
  intro r
  induction r with
  | zero =>
    intro k σ1 hk hC
    have hT : tn_ok T := hG.1
    have hX : gx_ok X := hG.2.1
    have hP : gt_ok P := hG.2.2.1
    have hI : gi_ok T (gx_n X) Im := hG.2.2.2.1
    have hS : gs_ok S := hG.2.2.2.2.1
    have hw : tn_w T < gx_n X := hG.2.2.2.2.2
    have hL := hT.1
    have hw6 := hT.2.1
    have hu := tn_u_lt hT
    have hX6 := hX.2.1
    have hP6 := hP.1
    have h : TR σ1 9 18 T := hC.1
    have ek : k = gx_n X := by omega
    subst ek
    refine ⟨σ1, hC, sm.rf _ _ _ _ _, fun v τ hE => ?_⟩
    refine ex_iload dX8_laws_35 rfl rfl ?_
    refine ex_aload_n dX8_laws_37 rfl rfl ?_
    refine ex_getR (b := 4) dX8_laws_38 rfl qp_7_29 rfl rfl ?_
    refine ex_getI (s := 7) (x := nI (gx_n X)) dX8_laws_41 rfl qp_7_75 rfl rfl (hC.2.1.1) ?_
    refine ex_icmp_ge (q := 74) (q2 := 47) dX8_laws_44 rfl rfl (fun _ => ?_) (fun hh => absurd (nI_le (a := (gx_n X)) (b := (gx_n X)) (by omega) (by omega)) hh)
    exact hE
  | succ r ih =>
    intro k σ1 hk hC
    have hT : tn_ok T := hG.1
    have hX : gx_ok X := hG.2.1
    have hP : gt_ok P := hG.2.2.1
    have hI : gi_ok T (gx_n X) Im := hG.2.2.2.1
    have hS : gs_ok S := hG.2.2.2.2.1
    have hw : tn_w T < gx_n X := hG.2.2.2.2.2
    have hL := hT.1
    have hw6 := hT.2.1
    have hu := tn_u_lt hT
    have hX6 := hX.2.1
    have hP6 := hP.1
    have h : TR σ1 9 18 T := hC.1
    obtain ⟨σ3, hO, hs3⟩ := c_movesInThought hX hT h hC.2.1 ha hb hab (show k < gx_n X by omega)
    have hG3 := CG.thinkL (G := (T, X, P, Im, S)) hG hC hs3
    have hs4 : sm σ1 σ3 0 27 0 42 := hs3.sm (by omega) (by omega) (by omega)
    obtain ⟨σ2, g1, g2, g3⟩ := ih (k + 1) σ3 (by omega) hG3
    refine ⟨σ2, g1, hs4.tr g2, fun v τ hE => ?_⟩
    have hE2 := g3 v τ hE
    have h20 := (lm_open_L (tn_lw T k) X a b).2.2.1
    by_cases c1 : (lm_open (tn_lw T k) X a b).1 = m
    · rw [lw_b, if_pos c1] at hE2
      refine ex_iload dX8_laws_35 rfl rfl ?_
      refine ex_aload_n dX8_laws_37 rfl rfl ?_
      refine ex_getR (b := 4) dX8_laws_38 rfl qp_7_29 rfl rfl ?_
      refine ex_getI (s := 7) (x := nI (gx_n X)) dX8_laws_41 rfl qp_7_75 rfl rfl (hC.2.1.1) ?_
      refine ex_icmp_ge (q := 74) (q2 := 47) dX8_laws_44 rfl rfl (fun hh => absurd hh (nI_ge (a := k) (b := (gx_n X)) (by omega) (by omega))) (fun _ => ?_)
      refine ex_aload_n dX8_laws_47 rfl rfl ?_
      refine ex_iload_n dX8_laws_48 rfl rfl ?_
      refine ex_iload_n dX8_laws_49 rfl rfl ?_
      refine ex_iload dX8_laws_50 rfl rfl ?_
      refine ex_callV (a := 54) (rest := []) dX8_laws_52 rfl qp_7_169 rfl rfl rfl rfl rfl (Nat.le_of_ble_eq_true rfl) (hO) (Nat.le_of_ble_eq_true rfl) ?_
      show Ex qm_lay _ mX8_laws 55 [some (.ref 54), some (.int (nI a)), some (.int (nI b)), some (.int (nI m)), some (.int 0), some (.int (nI (lw_b T X a b m k))), some (.int (nI k))] [.int (nI ((lm_open (tn_lw T k) X a b).1))] σ3 _ _
      refine ex_iload_n dX8_laws_55 rfl rfl ?_
      refine ex_icmp_ne (q := 68) (q2 := 59) dX8_laws_56 rfl rfl (fun hh => absurd hh (fun zz => zz (congrArg nI (show ((lm_open (tn_lw T k) X a b).1) = m by omega)))) (fun _ => ?_)
      refine ex_iload dX8_laws_59 rfl rfl ?_
      refine ex_iconst (x := 1) dX8_laws_61 rfl rfl ?_
      refine ex_iload dX8_laws_62 rfl rfl ?_
      refine ex_ishl (z := nI (2 ^ k)) dX8_laws_64 rfl (nI_1shl (by omega)) ?_
      refine ex_ior (z := nI ((lw_b T X a b m k) ||| (2 ^ k))) dX8_laws_65 rfl (nI_or _ _) ?_
      refine ex_istore (ls' := [some (.ref 54), some (.int (nI a)), some (.int (nI b)), some (.int (nI m)), some (.int 0), some (.int (nI ((lw_b T X a b m k) ||| (2 ^ k)))), some (.int (nI k))]) dX8_laws_66 rfl (Nat.le_of_ble_eq_true rfl) rfl rfl ?_
      refine ex_iinc (y := nI (k + 1)) (ls' := [some (.ref 54), some (.int (nI a)), some (.int (nI b)), some (.int (nI m)), some (.int 0), some (.int (nI ((lw_b T X a b m k) ||| (2 ^ k)))), some (.int (nI (k + 1)))]) dX8_laws_68 rfl rfl rfl (nI_add k 1) rfl ?_
      refine ex_goto (q := 35) dX8_laws_71 rfl ?_
      exact hE2
    · rw [lw_b, if_neg c1] at hE2
      rw [Nat.or_zero] at hE2
      refine ex_iload dX8_laws_35 rfl rfl ?_
      refine ex_aload_n dX8_laws_37 rfl rfl ?_
      refine ex_getR (b := 4) dX8_laws_38 rfl qp_7_29 rfl rfl ?_
      refine ex_getI (s := 7) (x := nI (gx_n X)) dX8_laws_41 rfl qp_7_75 rfl rfl (hC.2.1.1) ?_
      refine ex_icmp_ge (q := 74) (q2 := 47) dX8_laws_44 rfl rfl (fun hh => absurd hh (nI_ge (a := k) (b := (gx_n X)) (by omega) (by omega))) (fun _ => ?_)
      refine ex_aload_n dX8_laws_47 rfl rfl ?_
      refine ex_iload_n dX8_laws_48 rfl rfl ?_
      refine ex_iload_n dX8_laws_49 rfl rfl ?_
      refine ex_iload dX8_laws_50 rfl rfl ?_
      refine ex_callV (a := 54) (rest := []) dX8_laws_52 rfl qp_7_169 rfl rfl rfl rfl rfl (Nat.le_of_ble_eq_true rfl) (hO) (Nat.le_of_ble_eq_true rfl) ?_
      show Ex qm_lay _ mX8_laws 55 [some (.ref 54), some (.int (nI a)), some (.int (nI b)), some (.int (nI m)), some (.int 0), some (.int (nI (lw_b T X a b m k))), some (.int (nI k))] [.int (nI ((lm_open (tn_lw T k) X a b).1))] σ3 _ _
      refine ex_iload_n dX8_laws_55 rfl rfl ?_
      refine ex_icmp_ne (q := 68) (q2 := 59) dX8_laws_56 rfl rfl (fun _ => ?_) (fun hh => absurd (fun zz => absurd ((nI_eq (a := ((lm_open (tn_lw T k) X a b).1)) (b := m) (by omega) (by omega)).mp zz) (by omega)) hh)
      refine ex_iinc (y := nI (k + 1)) (ls' := [some (.ref 54), some (.int (nI a)), some (.int (nI b)), some (.int (nI m)), some (.int 0), some (.int (nI (lw_b T X a b m k))), some (.int (nI (k + 1)))]) dX8_laws_68 rfl rfl rfl (nI_add k 1) rfl ?_
      refine ex_goto (q := 35) dX8_laws_71 rfl ?_
      exact hE2

set_option maxHeartbeats 2000000 in
theorem l_lawsM {T : tn_T} {X : gx_T} {P : gt_T} {Im : gi_T} {S : gs_T} (hG : gg_ok (T, X, P, Im, S)) {a b m : Nat} (ha : a < tn_L T) (hb : b < tn_L T) (hab : a ≠ b) (hm : m ≤ 20) : ∀ (r k : Nat) (u : Nat) (σ1 : qm_St), k + r = gx_n X → MG σ1 (tn_lw T u, X, P, Im, S) → ∃ σ2, (∃ u, MG σ2 (tn_lw T u, X, P, Im, S)) ∧ sm σ1 σ2 27 46 42 62 ∧ ∀ v τ, Ex qm_lay 100 mX9_laws 93 [some (.ref 55), some (.int (nI a)), some (.int (nI b)), some (.int (nI m)), some (.int (nI (tn_w T))), some (.int (nI (lw_b T X a b m (gx_n X)))), some (.int (nI (gx_n X)))] [] σ2 v τ → Ex qm_lay 100 mX9_laws 49 [some (.ref 55), some (.int (nI a)), some (.int (nI b)), some (.int (nI m)), some (.int (nI (tn_w T))), some (.int (nI (lw_b T X a b m k))), some (.int (nI k))] [] σ1 v τ := by
  intro r
  induction r with
  | zero =>
    intro k u σ1 hk hM
    have hT : tn_ok T := hG.1
    have hX : gx_ok X := hG.2.1
    have hP : gt_ok P := hG.2.2.1
    have hI : gi_ok T (gx_n X) Im := hG.2.2.2.1
    have hS : gs_ok S := hG.2.2.2.2.1
    have hw : tn_w T < gx_n X := hG.2.2.2.2.2
    have hL := hT.1
    have hw6 := hT.2.1
    have hu := tn_u_lt hT
    have hX6 := hX.2.1
    have hP6 := hP.1
    have h : MR σ1 (tn_lw T u) := hM.1
    have ek : k = gx_n X := by omega
    subst ek
    refine ⟨σ1, ⟨u, hM⟩, sm.rf _ _ _ _ _, fun v τ hE => ?_⟩
    refine ex_iload dX9_laws_49 rfl rfl ?_
    refine ex_aload_n dX9_laws_51 rfl rfl ?_
    refine ex_getI (s := 30) (x := nI (gx_n X)) dX9_laws_52 rfl qp_8_105 rfl rfl (hM.2.1.1) ?_
    refine ex_icmp_ge (q := 93) (q2 := 58) dX9_laws_55 rfl rfl (fun _ => ?_) (fun hh => absurd (nI_le (a := (gx_n X)) (b := (gx_n X)) (by omega) (by omega)) hh)
    exact hE
  | succ r ih =>
    intro k u σ1 hk hM
    have hT : tn_ok T := hG.1
    have hX : gx_ok X := hG.2.1
    have hP : gt_ok P := hG.2.2.1
    have hI : gi_ok T (gx_n X) Im := hG.2.2.2.1
    have hS : gs_ok S := hG.2.2.2.2.1
    have hw : tn_w T < gx_n X := hG.2.2.2.2.2
    have hL := hT.1
    have hw6 := hT.2.1
    have hu := tn_u_lt hT
    have hX6 := hX.2.1
    have hP6 := hP.1
    have h : MR σ1 (tn_lw T u) := hM.1
    have hM2 := MG.law hM k
    have hT2 : tn_ok (tn_lw T k) := tn_lw_ok hT (by omega)
    obtain ⟨σ3, hO, hR3, hs3⟩ := k_lanesThought (T := tn_lw T k) hX hT2 (show k < gx_n X by omega) hM2.1 hM2.2.1 ha hb hab
    have hG3 := MG.thinkL (G := (tn_lw T k, X, P, Im, S)) hM2 hR3 (hs3.wid (by omega) (by omega))
    have hs4 : sm σ1 σ3 27 46 42 62 := ((sm.rf σ1 27 46 42 62).wI _ (by omega)).tr (hs3.sm (by omega) (by omega) (by omega))
    obtain ⟨σ2, g1, g2, g3⟩ := ih (k + 1) k σ3 (by omega) hG3
    refine ⟨σ2, g1, hs4.tr g2, fun v τ hE => ?_⟩
    have hE2 := g3 v τ hE
    have h20 := (lm_open_L (tn_lw T k) X a b).2.2.1
    by_cases c1 : (lm_open (tn_lw T k) X a b).1 = m
    · rw [lw_b, if_pos c1] at hE2
      refine ex_iload dX9_laws_49 rfl rfl ?_
      refine ex_aload_n dX9_laws_51 rfl rfl ?_
      refine ex_getI (s := 30) (x := nI (gx_n X)) dX9_laws_52 rfl qp_8_105 rfl rfl (hM.2.1.1) ?_
      refine ex_icmp_ge (q := 93) (q2 := 58) dX9_laws_55 rfl rfl (fun hh => absurd hh (nI_ge (a := k) (b := (gx_n X)) (by omega) (by omega))) (fun _ => ?_)
      refine ex_aload_n dX9_laws_58 rfl rfl ?_
      refine ex_iload dX9_laws_59 rfl rfl ?_
      refine ex_put (σ' := qm_wI σ1 31 (nI k)) dX9_laws_61 rfl qp_8_108 rfl rfl (Or.inl rfl) rfl ?_
      refine ex_iload dX9_laws_64 rfl rfl ?_
      refine ex_aload_n dX9_laws_66 rfl rfl ?_
      refine ex_iload_n dX9_laws_67 rfl rfl ?_
      refine ex_iload_n dX9_laws_68 rfl rfl ?_
      refine ex_callV (a := 55) (rest := [.int (nI (lw_b T X a b m k))]) dX9_laws_69 rfl qp_8_232 rfl rfl rfl rfl rfl (Nat.le_of_ble_eq_true rfl) (hO) (Nat.le_of_ble_eq_true rfl) ?_
      show Ex qm_lay _ mX9_laws 72 [some (.ref 55), some (.int (nI a)), some (.int (nI b)), some (.int (nI m)), some (.int (nI (tn_w T))), some (.int (nI (lw_b T X a b m k))), some (.int (nI k))] [.int (nI ((lm_open (tn_lw T k) X a b).1)), .int (nI (lw_b T X a b m k))] σ3 _ _
      refine ex_iload_n dX9_laws_72 rfl rfl ?_
      refine ex_icmp_ne (q := 83) (q2 := 76) dX9_laws_73 rfl rfl (fun hh => absurd hh (fun zz => zz (congrArg nI (show ((lm_open (tn_lw T k) X a b).1) = m by omega)))) (fun _ => ?_)
      refine ex_iconst (x := 1) dX9_laws_76 rfl rfl ?_
      refine ex_iload dX9_laws_77 rfl rfl ?_
      refine ex_ishl (z := nI (2 ^ k)) dX9_laws_79 rfl (nI_1shl (by omega)) ?_
      refine ex_goto (q := 84) dX9_laws_80 rfl ?_
      refine ex_ior (z := nI ((lw_b T X a b m k) ||| (2 ^ k))) dX9_laws_84 rfl (nI_or _ _) ?_
      refine ex_istore (ls' := [some (.ref 55), some (.int (nI a)), some (.int (nI b)), some (.int (nI m)), some (.int (nI (tn_w T))), some (.int (nI ((lw_b T X a b m k) ||| (2 ^ k)))), some (.int (nI k))]) dX9_laws_85 rfl (Nat.le_of_ble_eq_true rfl) rfl rfl ?_
      refine ex_iinc (y := nI (k + 1)) (ls' := [some (.ref 55), some (.int (nI a)), some (.int (nI b)), some (.int (nI m)), some (.int (nI (tn_w T))), some (.int (nI ((lw_b T X a b m k) ||| (2 ^ k)))), some (.int (nI (k + 1)))]) dX9_laws_87 rfl rfl rfl (nI_add k 1) rfl ?_
      refine ex_goto (q := 49) dX9_laws_90 rfl ?_
      exact hE2
    · rw [lw_b, if_neg c1] at hE2
      rw [Nat.or_zero] at hE2
      refine ex_iload dX9_laws_49 rfl rfl ?_
      refine ex_aload_n dX9_laws_51 rfl rfl ?_
      refine ex_getI (s := 30) (x := nI (gx_n X)) dX9_laws_52 rfl qp_8_105 rfl rfl (hM.2.1.1) ?_
      refine ex_icmp_ge (q := 93) (q2 := 58) dX9_laws_55 rfl rfl (fun hh => absurd hh (nI_ge (a := k) (b := (gx_n X)) (by omega) (by omega))) (fun _ => ?_)
      refine ex_aload_n dX9_laws_58 rfl rfl ?_
      refine ex_iload dX9_laws_59 rfl rfl ?_
      refine ex_put (σ' := qm_wI σ1 31 (nI k)) dX9_laws_61 rfl qp_8_108 rfl rfl (Or.inl rfl) rfl ?_
      refine ex_iload dX9_laws_64 rfl rfl ?_
      refine ex_aload_n dX9_laws_66 rfl rfl ?_
      refine ex_iload_n dX9_laws_67 rfl rfl ?_
      refine ex_iload_n dX9_laws_68 rfl rfl ?_
      refine ex_callV (a := 55) (rest := [.int (nI (lw_b T X a b m k))]) dX9_laws_69 rfl qp_8_232 rfl rfl rfl rfl rfl (Nat.le_of_ble_eq_true rfl) (hO) (Nat.le_of_ble_eq_true rfl) ?_
      show Ex qm_lay _ mX9_laws 72 [some (.ref 55), some (.int (nI a)), some (.int (nI b)), some (.int (nI m)), some (.int (nI (tn_w T))), some (.int (nI (lw_b T X a b m k))), some (.int (nI k))] [.int (nI ((lm_open (tn_lw T k) X a b).1)), .int (nI (lw_b T X a b m k))] σ3 _ _
      refine ex_iload_n dX9_laws_72 rfl rfl ?_
      refine ex_icmp_ne (q := 83) (q2 := 76) dX9_laws_73 rfl rfl (fun _ => ?_) (fun hh => absurd (fun zz => absurd ((nI_eq (a := ((lm_open (tn_lw T k) X a b).1)) (b := m) (by omega) (by omega)).mp zz) (by omega)) hh)
      refine ex_iconst (x := 0) dX9_laws_83 rfl rfl ?_
      refine ex_ior (z := nI (lw_b T X a b m k)) dX9_laws_84 rfl (Int32.or_zero) ?_
      refine ex_istore (ls' := [some (.ref 55), some (.int (nI a)), some (.int (nI b)), some (.int (nI m)), some (.int (nI (tn_w T))), some (.int (nI (lw_b T X a b m k))), some (.int (nI k))]) dX9_laws_85 rfl (Nat.le_of_ble_eq_true rfl) rfl rfl ?_
      refine ex_iinc (y := nI (k + 1)) (ls' := [some (.ref 55), some (.int (nI a)), some (.int (nI b)), some (.int (nI m)), some (.int (nI (tn_w T))), some (.int (nI (lw_b T X a b m k))), some (.int (nI (k + 1)))]) dX9_laws_87 rfl rfl rfl (nI_add k 1) rfl ?_
      refine ex_goto (q := 49) dX9_laws_90 rfl ?_
      exact hE2

set_option maxHeartbeats 2000000 in
theorem j_laws {T : tn_T} {X : gx_T} {P : gt_T} {Im : gi_T} {S : gs_T} (hG : gg_ok (T, X, P, Im, S)) (x y m : Int32) : J mX8_laws mX9_laws [.int x, .int y, .int m] (T, X, P, Im, S) := by
  have hT : tn_ok T := hG.1
  have hX : gx_ok X := hG.2.1
  have hP : gt_ok P := hG.2.2.1
  have hI : gi_ok T (gx_n X) Im := hG.2.2.2.1
  have hS : gs_ok S := hG.2.2.2.2.1
  have hw : tn_w T < gx_n X := hG.2.2.2.2.2
  have hL := hT.1
  have hw6 := hT.2.1
  have hu := tn_u_lt hT
  have hX6 := hX.2.1
  have hP6 := hP.1
  by_cases c1 : tn_two T x y = true
  · obtain ⟨a, b, ha, hb, hab, rfl, rfl⟩ := tn_two_of hT c1
    have hba := tn_b_lt hT ha
    have hbb := tn_b_lt hT hb
    by_cases c2 : (tn_b T a).testBit b = true
    · refine J.q hG (.int (-3)) (fun σ hC => ?_) (fun σ hM => ?_)
      · have h : TR σ 9 18 T := hC.1
        refine Ok.of (ls := [some (.ref 54), some (.int (nI a)), some (.int (nI b)), some (.int m), none, none, none]) (Nat.le_of_ble_eq_true rfl) rfl ?_
        refine ex_aload_n dX8_laws_0 rfl rfl ?_
        refine ex_iload_n dX8_laws_1 rfl rfl ?_
        refine ex_iload_n dX8_laws_2 rfl rfl ?_
        refine ex_callV (a := 54) (rest := []) dX8_laws_3 rfl qp_7_149 rfl rfl rfl rfl rfl (Nat.le_of_ble_eq_true rfl) (c_refL_1 hT h ha hb hab c2) (Nat.le_of_ble_eq_true rfl) ?_
        show Ex qm_lay _ mX8_laws 6 [some (.ref 54), some (.int (nI a)), some (.int (nI b)), some (.int m), none, none, none] [.int (-3)] σ _ _
        refine ex_istore (ls' := [some (.ref 54), some (.int (nI a)), some (.int (nI b)), some (.int m), some (.int (-3)), none, none]) dX8_laws_6 rfl (Nat.le_of_ble_eq_true rfl) rfl rfl ?_
        refine ex_iload dX8_laws_8 rfl rfl ?_
        refine ex_if_eq (q := 16) (q2 := 13) dX8_laws_10 rfl rfl (fun hh => absurd hh (by decide)) (fun _ => ?_)
        refine ex_iload dX8_laws_13 rfl rfl ?_
        exact ex_iret dX8_laws_15 rfl rfl rfl
      · have h : MR σ T := hM.1
        refine Ok.of (ls := [some (.ref 55), some (.int (nI a)), some (.int (nI b)), some (.int m), none, none, none]) (Nat.le_of_ble_eq_true rfl) rfl ?_
        refine ex_aload_n dX9_laws_0 rfl rfl ?_
        refine ex_iload_n dX9_laws_1 rfl rfl ?_
        refine ex_iload_n dX9_laws_2 rfl rfl ?_
        refine ex_callV (a := 55) (rest := []) dX9_laws_3 rfl qp_8_220 rfl rfl rfl rfl rfl (Nat.le_of_ble_eq_true rfl) (k_areTwo hT h (nI a) (nI b)) (Nat.le_of_ble_eq_true rfl) ?_
        show Ex qm_lay _ mX9_laws 6 [some (.ref 55), some (.int (nI a)), some (.int (nI b)), some (.int m), none, none, none] [.int (b2i (tn_two T (nI a) (nI b)))] σ _ _
        refine ex_if_ne (q := 12) (q2 := 9) dX9_laws_6 rfl rfl (fun _ => ?_) (fun hh => absurd (b2i_n0.mpr (c1)) hh)
        refine ex_aload_n dX9_laws_12 rfl rfl ?_
        refine ex_iload_n dX9_laws_13 rfl rfl ?_
        refine ex_iload_n dX9_laws_14 rfl rfl ?_
        refine ex_callV (a := 55) (rest := []) dX9_laws_15 rfl qp_8_186 rfl rfl rfl rfl rfl (Nat.le_of_ble_eq_true rfl) (k_areBeside hT h (by omega) (by omega)) (Nat.le_of_ble_eq_true rfl) ?_
        show Ex qm_lay _ mX9_laws 18 [some (.ref 55), some (.int (nI a)), some (.int (nI b)), some (.int m), none, none, none] [.int (b2i (Nat.testBit (tn_b T a) b))] σ _ _
        refine ex_if_eq (q := 24) (q2 := 21) dX9_laws_18 rfl rfl (fun hh => absurd hh (b2i_n0.mpr (c2))) (fun _ => ?_)
        refine ex_bipush (x := (-3)) dX9_laws_21 rfl rfl ?_
        exact ex_iret dX9_laws_23 rfl rfl rfl
    · by_cases c3 : tn_in m 0 20 = true
      · obtain ⟨m, hm, rfl⟩ := tn_in_of (n := 20) (by decide) c3
        refine J.u (.int (nI (lw_b T X a b m (gx_n X)))) (T, X, P, Im, S) hG (fun σ hC => ?_) (fun σ hM => ?_)
        · have h : TR σ 9 18 T := hC.1
          obtain ⟨σ2, g1, g2, hE⟩ := l_lawsC hG ha hb hab hm (gx_n X) 0 σ (by omega) hC
          refine ⟨σ2, ?_, g1, g2⟩
          refine Ok.of (ls := [some (.ref 54), some (.int (nI a)), some (.int (nI b)), some (.int (nI m)), none, none, none]) (Nat.le_of_ble_eq_true rfl) rfl ?_
          refine ex_aload_n dX8_laws_0 rfl rfl ?_
          refine ex_iload_n dX8_laws_1 rfl rfl ?_
          refine ex_iload_n dX8_laws_2 rfl rfl ?_
          refine ex_callV (a := 54) (rest := []) dX8_laws_3 rfl qp_7_149 rfl rfl rfl rfl rfl (Nat.le_of_ble_eq_true rfl) (c_refL_2 hT h ha hb hab (by simpa using c2)) (Nat.le_of_ble_eq_true rfl) ?_
          show Ex qm_lay _ mX8_laws 6 [some (.ref 54), some (.int (nI a)), some (.int (nI b)), some (.int (nI m)), none, none, none] [.int 0] σ _ _
          refine ex_istore (ls' := [some (.ref 54), some (.int (nI a)), some (.int (nI b)), some (.int (nI m)), some (.int 0), none, none]) dX8_laws_6 rfl (Nat.le_of_ble_eq_true rfl) rfl rfl ?_
          refine ex_iload dX8_laws_8 rfl rfl ?_
          refine ex_if_eq (q := 16) (q2 := 13) dX8_laws_10 rfl rfl (fun _ => ?_) (fun hh => absurd (by decide) hh)
          refine ex_iload_n dX8_laws_16 rfl rfl ?_
          refine ex_if_lt (q := 26) (q2 := 20) dX8_laws_17 rfl rfl (fun hh => absurd hh (nI_pos (by omega))) (fun _ => ?_)
          refine ex_iload_n dX8_laws_20 rfl rfl ?_
          refine ex_bipush (x := 20) dX8_laws_21 rfl rfl ?_
          refine ex_icmp_le (q := 29) (q2 := 26) dX8_laws_23 rfl rfl (fun _ => ?_) (fun hh => absurd (nI_le (a := m) (b := 20) (by omega) (by omega)) hh)
          refine ex_iconst (x := 0) dX8_laws_29 rfl rfl ?_
          refine ex_istore (ls' := [some (.ref 54), some (.int (nI a)), some (.int (nI b)), some (.int (nI m)), some (.int 0), some (.int 0), none]) dX8_laws_30 rfl (Nat.le_of_ble_eq_true rfl) rfl rfl ?_
          refine ex_iconst (x := 0) dX8_laws_32 rfl rfl ?_
          refine ex_istore (ls' := [some (.ref 54), some (.int (nI a)), some (.int (nI b)), some (.int (nI m)), some (.int 0), some (.int 0), some (.int 0)]) dX8_laws_33 rfl (Nat.le_of_ble_eq_true rfl) rfl rfl ?_
          refine hE _ _ ?_
          refine ex_iload dX8_laws_74 rfl rfl ?_
          exact ex_iret dX8_laws_76 rfl rfl rfl
        · have h : MR σ T := hM.1
          obtain ⟨σ2, ⟨u, g1⟩, g2, hE⟩ := l_lawsM hG ha hb hab hm (gx_n X) 0 (tn_w T) σ (by omega) hM
          refine ⟨qm_wI σ2 31 (nI (tn_w T)), ?_, MG.law g1 (tn_w T), g2.wI _ (by omega)⟩
          refine Ok.of (ls := [some (.ref 55), some (.int (nI a)), some (.int (nI b)), some (.int (nI m)), none, none, none]) (Nat.le_of_ble_eq_true rfl) rfl ?_
          refine ex_aload_n dX9_laws_0 rfl rfl ?_
          refine ex_iload_n dX9_laws_1 rfl rfl ?_
          refine ex_iload_n dX9_laws_2 rfl rfl ?_
          refine ex_callV (a := 55) (rest := []) dX9_laws_3 rfl qp_8_220 rfl rfl rfl rfl rfl (Nat.le_of_ble_eq_true rfl) (k_areTwo hT h (nI a) (nI b)) (Nat.le_of_ble_eq_true rfl) ?_
          show Ex qm_lay _ mX9_laws 6 [some (.ref 55), some (.int (nI a)), some (.int (nI b)), some (.int (nI m)), none, none, none] [.int (b2i (tn_two T (nI a) (nI b)))] σ _ _
          refine ex_if_ne (q := 12) (q2 := 9) dX9_laws_6 rfl rfl (fun _ => ?_) (fun hh => absurd (b2i_n0.mpr (c1)) hh)
          refine ex_aload_n dX9_laws_12 rfl rfl ?_
          refine ex_iload_n dX9_laws_13 rfl rfl ?_
          refine ex_iload_n dX9_laws_14 rfl rfl ?_
          refine ex_callV (a := 55) (rest := []) dX9_laws_15 rfl qp_8_186 rfl rfl rfl rfl rfl (Nat.le_of_ble_eq_true rfl) (k_areBeside hT h (by omega) (by omega)) (Nat.le_of_ble_eq_true rfl) ?_
          show Ex qm_lay _ mX9_laws 18 [some (.ref 55), some (.int (nI a)), some (.int (nI b)), some (.int (nI m)), none, none, none] [.int (b2i (Nat.testBit (tn_b T a) b))] σ _ _
          refine ex_if_eq (q := 24) (q2 := 21) dX9_laws_18 rfl rfl (fun _ => ?_) (fun hh => absurd (b2i_0.mpr (by simpa using c2)) hh)
          refine ex_iload_n dX9_laws_24 rfl rfl ?_
          refine ex_iconst (x := 0) dX9_laws_25 rfl rfl ?_
          refine ex_bipush (x := 20) dX9_laws_26 rfl rfl ?_
          refine ex_callS (rest := []) dX9_laws_28 rfl qp_8_81 rfl rfl rfl (Nat.le_of_ble_eq_true rfl) (k_in _ _ _ _) (Nat.le_of_ble_eq_true rfl) ?_
          show Ex qm_lay _ mX9_laws 31 [some (.ref 55), some (.int (nI a)), some (.int (nI b)), some (.int (nI m)), none, none, none] [.int (b2i (tn_in (nI m) 0 20))] σ _ _
          refine ex_if_ne (q := 37) (q2 := 34) dX9_laws_31 rfl rfl (fun _ => ?_) (fun hh => absurd (b2i_n0.mpr (c3)) hh)
          refine ex_aload_n dX9_laws_37 rfl rfl ?_
          refine ex_getI (s := 31) (x := nI (tn_w T)) dX9_laws_38 rfl qp_8_108 rfl rfl (h.1.2.1) ?_
          refine ex_istore (ls' := [some (.ref 55), some (.int (nI a)), some (.int (nI b)), some (.int (nI m)), some (.int (nI (tn_w T))), none, none]) dX9_laws_41 rfl (Nat.le_of_ble_eq_true rfl) rfl rfl ?_
          refine ex_iconst (x := 0) dX9_laws_43 rfl rfl ?_
          refine ex_istore (ls' := [some (.ref 55), some (.int (nI a)), some (.int (nI b)), some (.int (nI m)), some (.int (nI (tn_w T))), some (.int 0), none]) dX9_laws_44 rfl (Nat.le_of_ble_eq_true rfl) rfl rfl ?_
          refine ex_iconst (x := 0) dX9_laws_46 rfl rfl ?_
          refine ex_istore (ls' := [some (.ref 55), some (.int (nI a)), some (.int (nI b)), some (.int (nI m)), some (.int (nI (tn_w T))), some (.int 0), some (.int 0)]) dX9_laws_47 rfl (Nat.le_of_ble_eq_true rfl) rfl rfl ?_
          refine hE _ _ ?_
          refine ex_aload_n dX9_laws_93 rfl rfl ?_
          refine ex_iload dX9_laws_94 rfl rfl ?_
          refine ex_put (σ' := qm_wI σ2 31 (nI (tn_w T))) dX9_laws_96 rfl qp_8_108 rfl rfl (Or.inl rfl) rfl ?_
          refine ex_iload dX9_laws_99 rfl rfl ?_
          exact ex_iret dX9_laws_101 rfl rfl rfl
      · refine J.q hG (.int (-7)) (fun σ hC => ?_) (fun σ hM => ?_)
        · have h : TR σ 9 18 T := hC.1
          refine Ok.of (ls := [some (.ref 54), some (.int (nI a)), some (.int (nI b)), some (.int m), none, none, none]) (Nat.le_of_ble_eq_true rfl) rfl ?_
          refine ex_aload_n dX8_laws_0 rfl rfl ?_
          refine ex_iload_n dX8_laws_1 rfl rfl ?_
          refine ex_iload_n dX8_laws_2 rfl rfl ?_
          refine ex_callV (a := 54) (rest := []) dX8_laws_3 rfl qp_7_149 rfl rfl rfl rfl rfl (Nat.le_of_ble_eq_true rfl) (c_refL_2 hT h ha hb hab (by simpa using c2)) (Nat.le_of_ble_eq_true rfl) ?_
          show Ex qm_lay _ mX8_laws 6 [some (.ref 54), some (.int (nI a)), some (.int (nI b)), some (.int m), none, none, none] [.int 0] σ _ _
          refine ex_istore (ls' := [some (.ref 54), some (.int (nI a)), some (.int (nI b)), some (.int m), some (.int 0), none, none]) dX8_laws_6 rfl (Nat.le_of_ble_eq_true rfl) rfl rfl ?_
          refine ex_iload dX8_laws_8 rfl rfl ?_
          refine ex_if_eq (q := 16) (q2 := 13) dX8_laws_10 rfl rfl (fun _ => ?_) (fun hh => absurd (by decide) hh)
          refine ex_iload_n dX8_laws_16 rfl rfl ?_
          refine ex_if_lt (q := 26) (q2 := 20) dX8_laws_17 rfl rfl (fun h17 => ?_) (fun h17 => ?_)
          · refine ex_bipush (x := (-7)) dX8_laws_26 rfl rfl ?_
            exact ex_iret dX8_laws_28 rfl rfl rfl
          · refine ex_iload_n dX8_laws_20 rfl rfl ?_
            refine ex_bipush (x := 20) dX8_laws_21 rfl rfl ?_
            refine ex_icmp_le (q := 29) (q2 := 26) dX8_laws_23 rfl rfl (fun h23 => ?_) (fun h23 => ?_)
            · exact absurd (decide_eq_true ⟨Int32.not_lt.mp h17, h23⟩) c3
            · refine ex_bipush (x := (-7)) dX8_laws_26 rfl rfl ?_
              exact ex_iret dX8_laws_28 rfl rfl rfl
        · have h : MR σ T := hM.1
          refine Ok.of (ls := [some (.ref 55), some (.int (nI a)), some (.int (nI b)), some (.int m), none, none, none]) (Nat.le_of_ble_eq_true rfl) rfl ?_
          refine ex_aload_n dX9_laws_0 rfl rfl ?_
          refine ex_iload_n dX9_laws_1 rfl rfl ?_
          refine ex_iload_n dX9_laws_2 rfl rfl ?_
          refine ex_callV (a := 55) (rest := []) dX9_laws_3 rfl qp_8_220 rfl rfl rfl rfl rfl (Nat.le_of_ble_eq_true rfl) (k_areTwo hT h (nI a) (nI b)) (Nat.le_of_ble_eq_true rfl) ?_
          show Ex qm_lay _ mX9_laws 6 [some (.ref 55), some (.int (nI a)), some (.int (nI b)), some (.int m), none, none, none] [.int (b2i (tn_two T (nI a) (nI b)))] σ _ _
          refine ex_if_ne (q := 12) (q2 := 9) dX9_laws_6 rfl rfl (fun _ => ?_) (fun hh => absurd (b2i_n0.mpr (c1)) hh)
          refine ex_aload_n dX9_laws_12 rfl rfl ?_
          refine ex_iload_n dX9_laws_13 rfl rfl ?_
          refine ex_iload_n dX9_laws_14 rfl rfl ?_
          refine ex_callV (a := 55) (rest := []) dX9_laws_15 rfl qp_8_186 rfl rfl rfl rfl rfl (Nat.le_of_ble_eq_true rfl) (k_areBeside hT h (by omega) (by omega)) (Nat.le_of_ble_eq_true rfl) ?_
          show Ex qm_lay _ mX9_laws 18 [some (.ref 55), some (.int (nI a)), some (.int (nI b)), some (.int m), none, none, none] [.int (b2i (Nat.testBit (tn_b T a) b))] σ _ _
          refine ex_if_eq (q := 24) (q2 := 21) dX9_laws_18 rfl rfl (fun _ => ?_) (fun hh => absurd (b2i_0.mpr (by simpa using c2)) hh)
          refine ex_iload_n dX9_laws_24 rfl rfl ?_
          refine ex_iconst (x := 0) dX9_laws_25 rfl rfl ?_
          refine ex_bipush (x := 20) dX9_laws_26 rfl rfl ?_
          refine ex_callS (rest := []) dX9_laws_28 rfl qp_8_81 rfl rfl rfl (Nat.le_of_ble_eq_true rfl) (k_in _ _ _ _) (Nat.le_of_ble_eq_true rfl) ?_
          show Ex qm_lay _ mX9_laws 31 [some (.ref 55), some (.int (nI a)), some (.int (nI b)), some (.int m), none, none, none] [.int (b2i (tn_in m 0 20))] σ _ _
          refine ex_if_ne (q := 37) (q2 := 34) dX9_laws_31 rfl rfl (fun hh => absurd hh (fun zz => zz (b2i_0.mpr (by simpa using c3)))) (fun _ => ?_)
          refine ex_bipush (x := (-7)) dX9_laws_34 rfl rfl ?_
          exact ex_iret dX9_laws_36 rfl rfl rfl
  · refine J.q hG (.int (-5)) (fun σ hC => ?_) (fun σ hM => ?_)
    · have h : TR σ 9 18 T := hC.1
      refine Ok.of (ls := [some (.ref 54), some (.int x), some (.int y), some (.int m), none, none, none]) (Nat.le_of_ble_eq_true rfl) rfl ?_
      refine ex_aload_n dX8_laws_0 rfl rfl ?_
      refine ex_iload_n dX8_laws_1 rfl rfl ?_
      refine ex_iload_n dX8_laws_2 rfl rfl ?_
      refine ex_callV (a := 54) (rest := []) dX8_laws_3 rfl qp_7_149 rfl rfl rfl rfl rfl (Nat.le_of_ble_eq_true rfl) (c_refL_0 hT h (by simpa using c1)) (Nat.le_of_ble_eq_true rfl) ?_
      show Ex qm_lay _ mX8_laws 6 [some (.ref 54), some (.int x), some (.int y), some (.int m), none, none, none] [.int (-5)] σ _ _
      refine ex_istore (ls' := [some (.ref 54), some (.int x), some (.int y), some (.int m), some (.int (-5)), none, none]) dX8_laws_6 rfl (Nat.le_of_ble_eq_true rfl) rfl rfl ?_
      refine ex_iload dX8_laws_8 rfl rfl ?_
      refine ex_if_eq (q := 16) (q2 := 13) dX8_laws_10 rfl rfl (fun hh => absurd hh (by decide)) (fun _ => ?_)
      refine ex_iload dX8_laws_13 rfl rfl ?_
      exact ex_iret dX8_laws_15 rfl rfl rfl
    · have h : MR σ T := hM.1
      refine Ok.of (ls := [some (.ref 55), some (.int x), some (.int y), some (.int m), none, none, none]) (Nat.le_of_ble_eq_true rfl) rfl ?_
      refine ex_aload_n dX9_laws_0 rfl rfl ?_
      refine ex_iload_n dX9_laws_1 rfl rfl ?_
      refine ex_iload_n dX9_laws_2 rfl rfl ?_
      refine ex_callV (a := 55) (rest := []) dX9_laws_3 rfl qp_8_220 rfl rfl rfl rfl rfl (Nat.le_of_ble_eq_true rfl) (k_areTwo hT h x y) (Nat.le_of_ble_eq_true rfl) ?_
      show Ex qm_lay _ mX9_laws 6 [some (.ref 55), some (.int x), some (.int y), some (.int m), none, none, none] [.int (b2i (tn_two T x y))] σ _ _
      refine ex_if_ne (q := 12) (q2 := 9) dX9_laws_6 rfl rfl (fun hh => absurd hh (fun zz => zz (b2i_0.mpr (by simpa using c1)))) (fun _ => ?_)
      refine ex_bipush (x := (-5)) dX9_laws_9 rfl rfl ?_
      exact ex_iret dX9_laws_11 rfl rfl rfl

