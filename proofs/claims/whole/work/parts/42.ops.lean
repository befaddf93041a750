theorem rF_ne {σ : qm_St} {j i j' i' : Nat} {v : Int32} (h : j' ≠ j ∨ i' ≠ i) : qm_rF (qm_wF σ j i v) j' i' = qm_rF σ j' i' := by
  rw [rF_wF]
  split
  · rename_i e; subst e
    rw [if_neg (h.resolve_left (fun z => z rfl))]
  · rfl
theorem rF_eq {σ : qm_St} {j i : Nat} {v : Int32} : qm_rF (qm_wF σ j i v) j i = v := by rw [rF_wF, if_pos rfl, if_pos rfl]
theorem rF_eqi {σ : qm_St} {j i i' : Nat} {v : Int32} (h : i' = i) : qm_rF (qm_wF σ j i v) j i' = v := by subst h; exact rF_eq
/-- a house gets another colour -/
def tn_rc (T : tn_T) (l c : Nat) : tn_T := (tn_L T, tn_w T, tn_n T, tn_u T, tn_k T, tn_m T, tn_b T, fun q => if q = l then c else tn_c T q, tn_s T)
theorem tn_rc_ok {T : tn_T} (hT : tn_ok T) {l c : Nat} (hc : c ≤ 11) : tn_ok (tn_rc T l c) := by
  obtain ⟨h1, h2, h3, h4⟩ := hT
  refine ⟨h1, h2, h3, fun q hq => ?_⟩
  obtain ⟨g1, g2, g3, g4, g5, g6⟩ := h4 q hq
  refine ⟨g1, g2, g3, g4, fun hb => ?_, g6⟩
  show (if q = l then c else tn_c T q) ≤ 11
  split
  · exact hc
  · exact g5 hb
theorem TR.rc {σ : qm_St} {i j : Nat} {T : tn_T} (h : TR σ i j T) (l c : Nat) : TR (qm_wF σ (j + 3) l (nI c)) i j (tn_rc T l c) := by
  obtain ⟨h1, h2, h3, h4, h5⟩ := h
  refine ⟨h1, h2, h3, h4, fun q hq => ?_⟩
  obtain ⟨g1, g2, g3, g4⟩ := h5 q hq
  refine ⟨by rw [rF_ne (by omega)]; exact g1, by rw [rF_ne (by omega)]; exact g2, by rw [rF_ne (by omega)]; exact g3, fun hb => ⟨?_, by rw [rF_ne (by omega)]; exact (g4 hb).2⟩⟩
  show _ = nI (if q = l then c else tn_c T q)
  by_cases e : q = l
  · rw [rF_eqi e, if_pos e]
  · rw [rF_ne (Or.inr e), if_neg e]; exact (g4 hb).1
theorem MR.rc {σ : qm_St} {T : tn_T} (h : MR σ T) {l : Nat} (c : Nat) (hb : (tn_u T).testBit l = true) : MR (qm_wF σ 45 l (nI c)) (tn_rc T l c) := by
  obtain ⟨⟨h1, h2, h3⟩, h4, h5⟩ := h
  refine ⟨⟨h1, h2, h3⟩, h4, fun q hq => ?_⟩
  obtain ⟨g1, g2, g3⟩ := h5 q hq
  refine ⟨by rw [rF_ne (by omega)]; exact g1, ?_, by rw [rF_ne (by omega)]; exact g3⟩
  show _ = if (tn_u T).testBit q then nI (if q = l then c else tn_c T q) else -1
  by_cases e : q = l
  · subst e; rw [rF_eq, if_pos hb, if_pos rfl]
  · rw [rF_ne (Or.inr e), if_neg e]; exact g2
theorem tn_rc_put (T : tn_T) (l c : Nat) : tn_rc (tn_put T l c) l c = tn_put T l c := by
  obtain ⟨L, w, n, u, k, m, bb, cc, s⟩ := T
  show (L, w, n + 1, u ||| 2 ^ l, k, m, bb, (fun q => if q = l then c else if q = l then c else cc q), (fun q => if q = l then n + 1 else s q)) = (L, w, n + 1, u ||| 2 ^ l, k, m, bb, (fun q => if q = l then c else cc q), (fun q => if q = l then n + 1 else s q))
  congr 8
  funext q
  by_cases g : q = l
  · rw [if_pos g, if_pos g]
  · rw [if_neg g, if_neg g]
/-- another law -/
def tn_lw (T : tn_T) (t : Nat) : tn_T := (tn_L T, t, tn_n T, tn_u T, tn_k T, tn_m T, tn_b T, tn_c T, tn_s T)
theorem tn_lw_ok {T : tn_T} (hT : tn_ok T) {t : Nat} (ht : t < 6) : tn_ok (tn_lw T t) := ⟨hT.1, ht, hT.2.2.1, hT.2.2.2⟩
theorem TR.lw {σ : qm_St} {i j : Nat} {T : tn_T} (h : TR σ i j T) (t : Nat) : TR (qm_wI σ (i + 1) (nI t)) i j (tn_lw T t) := by
  obtain ⟨h1, h2, h3, h4, h5⟩ := h
  refine ⟨?_, ?_, ?_, ?_, h5⟩
  · rw [rI_wI, if_neg (by omega)]; exact h1
  · rw [rI_wI, if_pos rfl]; rfl
  · rw [rI_wI, if_neg (by omega)]; exact h3
  · rw [rI_wI, if_neg (by omega)]; exact h4
theorem MR.lw {σ : qm_St} {T : tn_T} (h : MR σ T) (t : Nat) : MR (qm_wI σ 31 (nI t)) (tn_lw T t) := ⟨⟨h.1.1, rfl, h.1.2.2⟩, h.2⟩
theorem MG.law {σ : qm_St} {T : tn_T} {X : gx_T} {P : gt_T} {Im : gi_T} {S : gs_T} (h : MG σ (T, X, P, Im, S)) (t : Nat) : MG (qm_wI σ 31 (nI t)) (tn_lw T t, X, P, Im, S) := ⟨MR.lw h.1 t, h.2.1, h.2.2.1, h.2.2.2.1, h.2.2.2.2.1, h.2.2.2.2.2⟩
/-- the tape with one byte more -/
def gt_add (P : gt_T) (x : Nat) : gt_T := (P.1 + 1, fun i => if i = P.1 then x else P.2 i)
theorem gt_add_ok {P : gt_T} (h : gt_ok P) (h1 : P.1 < 160) {x : Nat} (hx : x ≤ 255) : gt_ok (gt_add P x) := ⟨h1, fun i hi => by
  show (if i = P.1 then x else P.2 i) < 256
  have hi' : i < P.1 + 1 := hi
  split
  · omega
  · exact h.2 i (by omega)⟩
theorem PC.add {σ : qm_St} {P : gt_T} (h : PC σ P) (x : Nat) : PC (qm_wI (qm_wF σ 3 P.1 (nI x)) 8 (nI (P.1 + 1))) (gt_add P x) := ⟨rfl, fun i hi => by
  show qm_rF (qm_wF σ 3 P.1 (nI x)) 3 i = nI (if i = P.1 then x else P.2 i)
  have hi' : i < P.1 + 1 := hi
  by_cases e : i = P.1
  · rw [rF_eqi e, if_pos e]
  · rw [rF_ne (Or.inr e), if_neg e]; exact h.2 i (by omega)⟩
theorem PM.add {σ : qm_St} {P : gt_T} (h : PM σ P) (x : Nat) : PM (qm_wI (qm_wF σ 47 P.1 (nI x)) 29 (nI (P.1 + 1))) (gt_add P x) := ⟨rfl, fun i hi => by
  show qm_rF (qm_wF σ 47 P.1 (nI x)) 47 i = nI (if i = P.1 then x else P.2 i)
  have hi' : i < P.1 + 1 := hi
  by_cases e : i = P.1
  · rw [rF_eqi e, if_pos e]
  · rw [rF_ne (Or.inr e), if_neg e]; exact h.2 i (by omega)⟩
theorem CG.tape {σ σ' : qm_St} {T : tn_T} {X : gx_T} {P P' : gt_T} {Im : gi_T} {S : gs_T} (hX : gx_ok X) (h : CG σ (T, X, P, Im, S)) (hP : PC σ' P') (g : sm σ σ' 8 9 3 4) : CG σ' (T, X, P', Im, S) :=
  ⟨h.1.sm g (by omega) (by omega), h.2.1.sm hX g (by omega) (by omega), hP, h.2.2.2.1.sm g (by omega) (by omega), h.2.2.2.2.sm g (by omega)⟩
theorem MG.tape {σ σ' : qm_St} {T : tn_T} {X : gx_T} {P P' : gt_T} {Im : gi_T} {S : gs_T} (h : MG σ (T, X, P, Im, S)) (hP : PM σ' P') (g : sm σ σ' 29 30 47 48) : MG σ' (T, X, P', Im, S) := by
  refine ⟨⟨h.1.1.sm g (by omega) (by omega), h.1.2.sm g (by omega) (by omega)⟩, h.2.1.sm g (by omega) (by omega), hP, h.2.2.2.1.sm g (by omega) (by omega), h.2.2.2.2.1.sm g (by omega), h.2.2.2.2.2.sm g (by omega)⟩

set_option maxHeartbeats 2000000 in
theorem j_paint {T : tn_T} {X : gx_T} {P : gt_T} {Im : gi_T} {S : gs_T} (hG : gg_ok (T, X, P, Im, S)) (l c : Int32) : J mX8_paint mX9_paint [.int l, .int c] (T, X, P, Im, S) := by
  have hT : tn_ok T := hG.1
  have hX : gx_ok X := hG.2.1
  have hP : gt_ok P := hG.2.2.1
  have hI : gi_ok T (gx_n X) Im := hG.2.2.2.1
  have hS : gs_ok S := hG.2.2.2.2.1
  have hw : tn_w T < gx_n X := hG.2.2.2.2.2
  have hL := hT.1
  have hw6 := hT.2.1
  have hu := tn_u_lt hT
  have hX6 := hX.2.1
  have hP6 := hP.1
  by_cases c1 : tn_has T l = true
  · obtain ⟨k, hk, rfl⟩ := tn_has_of hT c1
    have hb7 := tn_b_lt hT hk
    have hk5 := (hT.2.2.2 k hk).1
    by_cases c3 : tn_in c 0 11 = true
    · obtain ⟨q, hq, rfl⟩ := tn_in_of (n := 11) (by decide) c3
      by_cases c2 : (tn_u T).testBit k = true
      · refine J.u (.int (tn_cv T k)) (tn_rc T k q, X, P, Im, S) ⟨tn_rc_ok hT hq, hX, hP, hI, hS, hw⟩ (fun σ hC => ?_) (fun σ hM => ?_)
        · have h : TR σ 9 18 T := hC.1
          refine ⟨_, ?_, hC.town (G := (T, X, P, Im, S)) hG (TR.rc h k q) ((sm.rf σ 9 13 18 23).wF _ (by omega)), (sm.rf σ 0 27 0 42).wF _ (by omega)⟩
          refine Ok.of (ls := [some (.ref 54), some (.int (nI k)), some (.int (nI q)), none]) (Nat.le_of_ble_eq_true rfl) rfl ?_
          refine ex_aload_n dX8_paint_0 rfl rfl ?_
          refine ex_getR (b := 22) dX8_paint_1 rfl qp_7_10 rfl rfl ?_
          refine ex_iload_n dX8_paint_4 rfl rfl ?_
          refine ex_callV (a := 22) (rest := []) dX8_paint_5 rfl qp_7_95 rfl rfl rfl rfl rfl (Nat.le_of_ble_eq_true rfl) (c_hasLot_0n hT h (by omega)) (Nat.le_of_ble_eq_true rfl) ?_
          show Ex qm_lay _ mX8_paint 8 [some (.ref 54), some (.int (nI k)), some (.int (nI q)), none] [.int 1] σ _ _
          refine ex_if_ne (q := 14) (q2 := 11) dX8_paint_8 rfl rfl (fun _ => ?_) (fun hh => absurd (by decide) hh)
          refine ex_iload_n dX8_paint_14 rfl rfl ?_
          refine ex_callS (rest := []) dX8_paint_15 rfl qp_7_98 rfl rfl rfl (Nat.le_of_ble_eq_true rfl) (c_isColour _ _) (Nat.le_of_ble_eq_true rfl) ?_
          show Ex qm_lay _ mX8_paint 18 [some (.ref 54), some (.int (nI k)), some (.int (nI q)), none] [.int (b2i (tn_in (nI q) 0 11))] σ _ _
          refine ex_if_ne (q := 24) (q2 := 21) dX8_paint_18 rfl rfl (fun _ => ?_) (fun hh => absurd (b2i_n0.mpr (c3)) hh)
          refine ex_aload_n dX8_paint_24 rfl rfl ?_
          refine ex_getR (b := 22) dX8_paint_25 rfl qp_7_10 rfl rfl ?_
          refine ex_iload_n dX8_paint_28 rfl rfl ?_
          refine ex_callV (a := 22) (rest := []) dX8_paint_29 rfl qp_7_123 rfl rfl rfl rfl rfl (Nat.le_of_ble_eq_true rfl) (c_colourOf_0n hT h (by omega)) (Nat.le_of_ble_eq_true rfl) ?_
          show Ex qm_lay _ mX8_paint 32 [some (.ref 54), some (.int (nI k)), some (.int (nI q)), none] [.int (tn_cv T k)] σ _ _
          refine ex_istore_n (ls' := [some (.ref 54), some (.int (nI k)), some (.int (nI q)), some (.int (tn_cv T k))]) dX8_paint_32 rfl (Nat.le_of_ble_eq_true rfl) rfl rfl ?_
          refine ex_aload_n dX8_paint_33 rfl rfl ?_
          refine ex_getR (b := 22) dX8_paint_34 rfl qp_7_10 rfl rfl ?_
          refine ex_iload_n dX8_paint_37 rfl rfl ?_
          refine ex_callV (a := 22) (rest := []) dX8_paint_38 rfl qp_7_127 rfl rfl rfl rfl rfl (Nat.le_of_ble_eq_true rfl) (c_isBuilt_0n hT h (by omega)) (Nat.le_of_ble_eq_true rfl) ?_
          show Ex qm_lay _ mX8_paint 41 [some (.ref 54), some (.int (nI k)), some (.int (nI q)), some (.int (tn_cv T k))] [.int (b2i (Nat.testBit (tn_u T) k))] σ _ _
          refine ex_if_eq (q := 57) (q2 := 44) dX8_paint_41 rfl rfl (fun hh => absurd hh (b2i_n0.mpr (c2))) (fun _ => ?_)
          refine ex_aload_n dX8_paint_44 rfl rfl ?_
          refine ex_getR (b := 22) dX8_paint_45 rfl qp_7_10 rfl rfl ?_
          refine ex_getR (b := 26) dX8_paint_48 rfl qp_7_142 rfl rfl ?_
          refine ex_iload_n dX8_paint_51 rfl rfl ?_
          refine ex_iload_n dX8_paint_52 rfl rfl ?_
          refine ex_iastore (k := k) (σ' := qm_wF σ 21 k (nI q)) dX8_paint_53 rfl rfl (rfl) (by omega) (by decide) rfl ?_
          refine ex_goto (q := 66) dX8_paint_54 rfl ?_
          refine ex_iload_n dX8_paint_66 rfl rfl ?_
          exact ex_iret dX8_paint_67 rfl rfl rfl
        · have h : MR σ T := hM.1
          have hne : ¬ tn_cv T k = -1 := fun z => by rw [(tn_cv_m1 hT hk).mp z] at c2; cases c2
          refine ⟨_, ?_, hM.town (G := (T, X, P, Im, S)) (MR.rc h q c2) ((sm.rf σ 27 29 42 47).wF _ (by omega)), (sm.rf σ 27 46 42 62).wF _ (by omega)⟩
          refine Ok.of (ls := [some (.ref 55), some (.int (nI k)), some (.int (nI q)), none]) (Nat.le_of_ble_eq_true rfl) rfl ?_
          refine ex_aload_n dX9_paint_0 rfl rfl ?_
          refine ex_iload_n dX9_paint_1 rfl rfl ?_
          refine ex_callV (a := 55) (rest := []) dX9_paint_2 rfl qp_8_85 rfl rfl rfl rfl rfl (Nat.le_of_ble_eq_true rfl) (k_isLot_n hT h (by omega)) (Nat.le_of_ble_eq_true rfl) ?_
          show Ex qm_lay _ mX9_paint 5 [some (.ref 55), some (.int (nI k)), some (.int (nI q)), none] [.int 1] σ _ _
          refine ex_if_ne (q := 11) (q2 := 8) dX9_paint_5 rfl rfl (fun _ => ?_) (fun hh => absurd (by decide) hh)
          refine ex_iload_n dX9_paint_11 rfl rfl ?_
          refine ex_iconst (x := 0) dX9_paint_12 rfl rfl ?_
          refine ex_bipush (x := 11) dX9_paint_13 rfl rfl ?_
          refine ex_callS (rest := []) dX9_paint_15 rfl qp_8_81 rfl rfl rfl (Nat.le_of_ble_eq_true rfl) (k_in _ _ _ _) (Nat.le_of_ble_eq_true rfl) ?_
          show Ex qm_lay _ mX9_paint 18 [some (.ref 55), some (.int (nI k)), some (.int (nI q)), none] [.int (b2i (tn_in (nI q) 0 11))] σ _ _
          refine ex_if_ne (q := 24) (q2 := 21) dX9_paint_18 rfl rfl (fun _ => ?_) (fun hh => absurd (b2i_n0.mpr (c3)) hh)
          refine ex_aload_n dX9_paint_24 rfl rfl ?_
          refine ex_getR (b := 59) dX9_paint_25 rfl qp_8_19 rfl rfl ?_
          refine ex_iload_n dX9_paint_28 rfl rfl ?_
          refine ex_iaload (k := k) (x := tn_cv T k) dX9_paint_29 rfl rfl (rfl) (by omega) (by decide) (MR.cc h (by omega)) ?_
          refine ex_istore_n (ls' := [some (.ref 55), some (.int (nI k)), some (.int (nI q)), some (.int (tn_cv T k))]) dX9_paint_30 rfl (Nat.le_of_ble_eq_true rfl) rfl rfl ?_
          refine ex_iload_n dX9_paint_31 rfl rfl ?_
          refine ex_iconst (x := (-1)) dX9_paint_32 rfl rfl ?_
          refine ex_icmp_ne (q := 42) (q2 := 36) dX9_paint_33 rfl rfl (fun _ => ?_) (fun hh => absurd (hne) hh)
          refine ex_aload_n dX9_paint_42 rfl rfl ?_
          refine ex_getR (b := 59) dX9_paint_43 rfl qp_8_19 rfl rfl ?_
          refine ex_iload_n dX9_paint_46 rfl rfl ?_
          refine ex_iload_n dX9_paint_47 rfl rfl ?_
          refine ex_iastore (k := k) (σ' := qm_wF σ 45 k (nI q)) dX9_paint_48 rfl rfl (rfl) (by omega) (by decide) rfl ?_
          refine ex_iload_n dX9_paint_49 rfl rfl ?_
          exact ex_iret dX9_paint_50 rfl rfl rfl
      · refine J.u (.int (tn_cv T k)) (tn_put T k q, X, P, Im, S) ⟨tn_put_ok hT hk hq, hX, hP, hI, hS, hw⟩ (fun σ hC => ?_) (fun σ hM => ?_)
        · have h : TR σ 9 18 T := hC.1
          obtain ⟨σ', hO, hR, hs⟩ := c_putHouse_0 hT h hk q
          refine ⟨σ', ?_, hC.town (G := (T, X, P, Im, S)) hG hR hs, hs.wid (by omega) (by omega)⟩
          refine Ok.of (ls := [some (.ref 54), some (.int (nI k)), some (.int (nI q)), none]) (Nat.le_of_ble_eq_true rfl) rfl ?_
          refine ex_aload_n dX8_paint_0 rfl rfl ?_
          refine ex_getR (b := 22) dX8_paint_1 rfl qp_7_10 rfl rfl ?_
          refine ex_iload_n dX8_paint_4 rfl rfl ?_
          refine ex_callV (a := 22) (rest := []) dX8_paint_5 rfl qp_7_95 rfl rfl rfl rfl rfl (Nat.le_of_ble_eq_true rfl) (c_hasLot_0n hT h (by omega)) (Nat.le_of_ble_eq_true rfl) ?_
          show Ex qm_lay _ mX8_paint 8 [some (.ref 54), some (.int (nI k)), some (.int (nI q)), none] [.int 1] σ _ _
          refine ex_if_ne (q := 14) (q2 := 11) dX8_paint_8 rfl rfl (fun _ => ?_) (fun hh => absurd (by decide) hh)
          refine ex_iload_n dX8_paint_14 rfl rfl ?_
          refine ex_callS (rest := []) dX8_paint_15 rfl qp_7_98 rfl rfl rfl (Nat.le_of_ble_eq_true rfl) (c_isColour _ _) (Nat.le_of_ble_eq_true rfl) ?_
          show Ex qm_lay _ mX8_paint 18 [some (.ref 54), some (.int (nI k)), some (.int (nI q)), none] [.int (b2i (tn_in (nI q) 0 11))] σ _ _
          refine ex_if_ne (q := 24) (q2 := 21) dX8_paint_18 rfl rfl (fun _ => ?_) (fun hh => absurd (b2i_n0.mpr (c3)) hh)
          refine ex_aload_n dX8_paint_24 rfl rfl ?_
          refine ex_getR (b := 22) dX8_paint_25 rfl qp_7_10 rfl rfl ?_
          refine ex_iload_n dX8_paint_28 rfl rfl ?_
          refine ex_callV (a := 22) (rest := []) dX8_paint_29 rfl qp_7_123 rfl rfl rfl rfl rfl (Nat.le_of_ble_eq_true rfl) (c_colourOf_0n hT h (by omega)) (Nat.le_of_ble_eq_true rfl) ?_
          show Ex qm_lay _ mX8_paint 32 [some (.ref 54), some (.int (nI k)), some (.int (nI q)), none] [.int (tn_cv T k)] σ _ _
          refine ex_istore_n (ls' := [some (.ref 54), some (.int (nI k)), some (.int (nI q)), some (.int (tn_cv T k))]) dX8_paint_32 rfl (Nat.le_of_ble_eq_true rfl) rfl rfl ?_
          refine ex_aload_n dX8_paint_33 rfl rfl ?_
          refine ex_getR (b := 22) dX8_paint_34 rfl qp_7_10 rfl rfl ?_
          refine ex_iload_n dX8_paint_37 rfl rfl ?_
          refine ex_callV (a := 22) (rest := []) dX8_paint_38 rfl qp_7_127 rfl rfl rfl rfl rfl (Nat.le_of_ble_eq_true rfl) (c_isBuilt_0n hT h (by omega)) (Nat.le_of_ble_eq_true rfl) ?_
          show Ex qm_lay _ mX8_paint 41 [some (.ref 54), some (.int (nI k)), some (.int (nI q)), some (.int (tn_cv T k))] [.int (b2i (Nat.testBit (tn_u T) k))] σ _ _
          refine ex_if_eq (q := 57) (q2 := 44) dX8_paint_41 rfl rfl (fun _ => ?_) (fun hh => absurd (b2i_0.mpr ((by simpa using c2))) hh)
          refine ex_aload_n dX8_paint_57 rfl rfl ?_
          refine ex_getR (b := 22) dX8_paint_58 rfl qp_7_10 rfl rfl ?_
          refine ex_iload_n dX8_paint_61 rfl rfl ?_
          refine ex_iload_n dX8_paint_62 rfl rfl ?_
          refine ex_callV (a := 22) (rest := []) dX8_paint_63 rfl qp_7_145 rfl rfl rfl rfl rfl (Nat.le_of_ble_eq_true rfl) (hO) (Nat.le_of_ble_eq_true rfl) ?_
          show Ex qm_lay _ mX8_paint 66 [some (.ref 54), some (.int (nI k)), some (.int (nI q)), some (.int (tn_cv T k))] [] σ' _ _
          refine ex_iload_n dX8_paint_66 rfl rfl ?_
          exact ex_iret dX8_paint_67 rfl rfl rfl
        · have h : MR σ T := hM.1
          obtain ⟨σ', hO, hR, hs⟩ := k_builds hT h hk q
          have hR2 := MR.rc hR q (tn_put_bit q (Or.inl rfl))
          rw [tn_rc_put] at hR2
          refine ⟨_, ?_, hM.town (G := (T, X, P, Im, S)) hR2 ((hs.wid (by omega) (by omega)).wF _ (by omega)), (hs.wid (by omega) (by omega)).wF _ (by omega)⟩
          refine Ok.of (ls := [some (.ref 55), some (.int (nI k)), some (.int (nI q)), none]) (Nat.le_of_ble_eq_true rfl) rfl ?_
          refine ex_aload_n dX9_paint_0 rfl rfl ?_
          refine ex_iload_n dX9_paint_1 rfl rfl ?_
          refine ex_callV (a := 55) (rest := []) dX9_paint_2 rfl qp_8_85 rfl rfl rfl rfl rfl (Nat.le_of_ble_eq_true rfl) (k_isLot_n hT h (by omega)) (Nat.le_of_ble_eq_true rfl) ?_
          show Ex qm_lay _ mX9_paint 5 [some (.ref 55), some (.int (nI k)), some (.int (nI q)), none] [.int 1] σ _ _
          refine ex_if_ne (q := 11) (q2 := 8) dX9_paint_5 rfl rfl (fun _ => ?_) (fun hh => absurd (by decide) hh)
          refine ex_iload_n dX9_paint_11 rfl rfl ?_
          refine ex_iconst (x := 0) dX9_paint_12 rfl rfl ?_
          refine ex_bipush (x := 11) dX9_paint_13 rfl rfl ?_
          refine ex_callS (rest := []) dX9_paint_15 rfl qp_8_81 rfl rfl rfl (Nat.le_of_ble_eq_true rfl) (k_in _ _ _ _) (Nat.le_of_ble_eq_true rfl) ?_
          show Ex qm_lay _ mX9_paint 18 [some (.ref 55), some (.int (nI k)), some (.int (nI q)), none] [.int (b2i (tn_in (nI q) 0 11))] σ _ _
          refine ex_if_ne (q := 24) (q2 := 21) dX9_paint_18 rfl rfl (fun _ => ?_) (fun hh => absurd (b2i_n0.mpr (c3)) hh)
          refine ex_aload_n dX9_paint_24 rfl rfl ?_
          refine ex_getR (b := 59) dX9_paint_25 rfl qp_8_19 rfl rfl ?_
          refine ex_iload_n dX9_paint_28 rfl rfl ?_
          refine ex_iaload (k := k) (x := tn_cv T k) dX9_paint_29 rfl rfl (rfl) (by omega) (by decide) (MR.cc h (by omega)) ?_
          refine ex_istore_n (ls' := [some (.ref 55), some (.int (nI k)), some (.int (nI q)), some (.int (tn_cv T k))]) dX9_paint_30 rfl (Nat.le_of_ble_eq_true rfl) rfl rfl ?_
          refine ex_iload_n dX9_paint_31 rfl rfl ?_
          refine ex_iconst (x := (-1)) dX9_paint_32 rfl rfl ?_
          refine ex_icmp_ne (q := 42) (q2 := 36) dX9_paint_33 rfl rfl (fun hh => absurd hh (fun z => z ((tn_cv_m1 hT hk).mpr (by simpa using c2)))) (fun _ => ?_)
          refine ex_aload_n dX9_paint_36 rfl rfl ?_
          refine ex_iload_n dX9_paint_37 rfl rfl ?_
          refine ex_iload_n dX9_paint_38 rfl rfl ?_
          refine ex_callV (a := 55) (rest := []) dX9_paint_39 rfl qp_8_205 rfl rfl rfl rfl rfl (Nat.le_of_ble_eq_true rfl) (hO) (Nat.le_of_ble_eq_true rfl) ?_
          show Ex qm_lay _ mX9_paint 42 [some (.ref 55), some (.int (nI k)), some (.int (nI q)), some (.int (tn_cv T k))] [] σ' _ _
          refine ex_aload_n dX9_paint_42 rfl rfl ?_
          refine ex_getR (b := 59) dX9_paint_43 rfl qp_8_19 rfl rfl ?_
          refine ex_iload_n dX9_paint_46 rfl rfl ?_
          refine ex_iload_n dX9_paint_47 rfl rfl ?_
          refine ex_iastore (k := k) (σ' := qm_wF σ' 45 k (nI q)) dX9_paint_48 rfl rfl (rfl) (by omega) (by decide) rfl ?_
          refine ex_iload_n dX9_paint_49 rfl rfl ?_
          exact ex_iret dX9_paint_50 rfl rfl rfl
    · refine J.q hG (.int ((-7))) (fun σ hC => ?_) (fun σ hM => ?_)
      · have h : TR σ 9 18 T := hC.1
        refine Ok.of (ls := [some (.ref 54), some (.int (nI k)), some (.int c), none]) (Nat.le_of_ble_eq_true rfl) rfl ?_
        refine ex_aload_n dX8_paint_0 rfl rfl ?_
        refine ex_getR (b := 22) dX8_paint_1 rfl qp_7_10 rfl rfl ?_
        refine ex_iload_n dX8_paint_4 rfl rfl ?_
        refine ex_callV (a := 22) (rest := []) dX8_paint_5 rfl qp_7_95 rfl rfl rfl rfl rfl (Nat.le_of_ble_eq_true rfl) (c_hasLot_0n hT h (by omega)) (Nat.le_of_ble_eq_true rfl) ?_
        show Ex qm_lay _ mX8_paint 8 [some (.ref 54), some (.int (nI k)), some (.int c), none] [.int 1] σ _ _
        refine ex_if_ne (q := 14) (q2 := 11) dX8_paint_8 rfl rfl (fun _ => ?_) (fun hh => absurd (by decide) hh)
        refine ex_iload_n dX8_paint_14 rfl rfl ?_
        refine ex_callS (rest := []) dX8_paint_15 rfl qp_7_98 rfl rfl rfl (Nat.le_of_ble_eq_true rfl) (c_isColour _ _) (Nat.le_of_ble_eq_true rfl) ?_
        show Ex qm_lay _ mX8_paint 18 [some (.ref 54), some (.int (nI k)), some (.int c), none] [.int (b2i (tn_in c 0 11))] σ _ _
        refine ex_if_ne (q := 24) (q2 := 21) dX8_paint_18 rfl rfl (fun hh => absurd hh (fun zz => zz (b2i_0.mpr (by simpa using c3)))) (fun _ => ?_)
        refine ex_bipush (x := (-7)) dX8_paint_21 rfl rfl ?_
        exact ex_iret dX8_paint_23 rfl rfl rfl
      · have h : MR σ T := hM.1
        refine Ok.of (ls := [some (.ref 55), some (.int (nI k)), some (.int c), none]) (Nat.le_of_ble_eq_true rfl) rfl ?_
        refine ex_aload_n dX9_paint_0 rfl rfl ?_
        refine ex_iload_n dX9_paint_1 rfl rfl ?_
        refine ex_callV (a := 55) (rest := []) dX9_paint_2 rfl qp_8_85 rfl rfl rfl rfl rfl (Nat.le_of_ble_eq_true rfl) (k_isLot_n hT h (by omega)) (Nat.le_of_ble_eq_true rfl) ?_
        show Ex qm_lay _ mX9_paint 5 [some (.ref 55), some (.int (nI k)), some (.int c), none] [.int 1] σ _ _
        refine ex_if_ne (q := 11) (q2 := 8) dX9_paint_5 rfl rfl (fun _ => ?_) (fun hh => absurd (by decide) hh)
        refine ex_iload_n dX9_paint_11 rfl rfl ?_
        refine ex_iconst (x := 0) dX9_paint_12 rfl rfl ?_
        refine ex_bipush (x := 11) dX9_paint_13 rfl rfl ?_
        refine ex_callS (rest := []) dX9_paint_15 rfl qp_8_81 rfl rfl rfl (Nat.le_of_ble_eq_true rfl) (k_in _ _ _ _) (Nat.le_of_ble_eq_true rfl) ?_
        show Ex qm_lay _ mX9_paint 18 [some (.ref 55), some (.int (nI k)), some (.int c), none] [.int (b2i (tn_in c 0 11))] σ _ _
        refine ex_if_ne (q := 24) (q2 := 21) dX9_paint_18 rfl rfl (fun hh => absurd hh (fun zz => zz (b2i_0.mpr (by simpa using c3)))) (fun _ => ?_)
        refine ex_bipush (x := (-7)) dX9_paint_21 rfl rfl ?_
        exact ex_iret dX9_paint_23 rfl rfl rfl
  · refine J.q hG (.int ((-5))) (fun σ hC => ?_) (fun σ hM => ?_)
    · have h : TR σ 9 18 T := hC.1
      refine Ok.of (ls := [some (.ref 54), some (.int l), some (.int c), none]) (Nat.le_of_ble_eq_true rfl) rfl ?_
      refine ex_aload_n dX8_paint_0 rfl rfl ?_
      refine ex_getR (b := 22) dX8_paint_1 rfl qp_7_10 rfl rfl ?_
      refine ex_iload_n dX8_paint_4 rfl rfl ?_
      refine ex_callV (a := 22) (rest := []) dX8_paint_5 rfl qp_7_95 rfl rfl rfl rfl rfl (Nat.le_of_ble_eq_true rfl) (c_hasLot_0 hT h l) (Nat.le_of_ble_eq_true rfl) ?_
      show Ex qm_lay _ mX8_paint 8 [some (.ref 54), some (.int l), some (.int c), none] [.int (b2i (tn_has T l))] σ _ _
      refine ex_if_ne (q := 14) (q2 := 11) dX8_paint_8 rfl rfl (fun hh => absurd hh (fun zz => zz (b2i_0.mpr (by simpa using c1)))) (fun _ => ?_)
      refine ex_bipush (x := (-5)) dX8_paint_11 rfl rfl ?_
      exact ex_iret dX8_paint_13 rfl rfl rfl
    · have h : MR σ T := hM.1
      refine Ok.of (ls := [some (.ref 55), some (.int l), some (.int c), none]) (Nat.le_of_ble_eq_true rfl) rfl ?_
      refine ex_aload_n dX9_paint_0 rfl rfl ?_
      refine ex_iload_n dX9_paint_1 rfl rfl ?_
      refine ex_callV (a := 55) (rest := []) dX9_paint_2 rfl qp_8_85 rfl rfl rfl rfl rfl (Nat.le_of_ble_eq_true rfl) (k_isLot hT h l) (Nat.le_of_ble_eq_true rfl) ?_
      show Ex qm_lay _ mX9_paint 5 [some (.ref 55), some (.int l), some (.int c), none] [.int (b2i (tn_has T l))] σ _ _
      refine ex_if_ne (q := 11) (q2 := 8) dX9_paint_5 rfl rfl (fun hh => absurd hh (fun zz => zz (b2i_0.mpr (by simpa using c1)))) (fun _ => ?_)
      refine ex_bipush (x := (-5)) dX9_paint_8 rfl rfl ?_
      exact ex_iret dX9_paint_10 rfl rfl rfl

set_option maxHeartbeats 2000000 in
theorem j_force {T : tn_T} {X : gx_T} {P : gt_T} {Im : gi_T} {S : gs_T} (hG : gg_ok (T, X, P, Im, S)) (t : Int32) : J mX8_force mX9_force [.int t] (T, X, P, Im, S) := by
  have hT : tn_ok T := hG.1
  have hX : gx_ok X := hG.2.1
  have hP : gt_ok P := hG.2.2.1
  have hI : gi_ok T (gx_n X) Im := hG.2.2.2.1
  have hS : gs_ok S := hG.2.2.2.2.1
  have hw : tn_w T < gx_n X := hG.2.2.2.2.2
  have hL := hT.1
  have hw6 := hT.2.1
  have hu := tn_u_lt hT
  have hX6 := hX.2.1
  have hP6 := hP.1
  have e5 : nI (gx_n X) - 1 = nI (gx_n X - 1) := pk_sub (b := 1) hX.1
  rcases sw_in (n := gx_n X - 1) (by omega) t with ⟨q, hq, rfl⟩ | ho
  · refine J.u (.int (nI (tn_w T))) (tn_lw T q, X, P, Im, S) ⟨tn_lw_ok hT (by omega), hX, hP, hI, hS, show q < gx_n X by omega⟩ (fun σ hC => ?_) (fun σ hM => ?_)
    · have h : TR σ 9 18 T := hC.1
      refine ⟨_, ?_, hC.town (G := (T, X, P, Im, S)) hG (TR.lw h q) ((sm.rf σ 9 13 18 23).wI _ (by omega)), (sm.rf σ 0 27 0 42).wI _ (by omega)⟩
      refine Ok.of (ls := [some (.ref 54), some (.int (nI q)), none]) (Nat.le_of_ble_eq_true rfl) rfl ?_
      refine ex_iload_n dX8_force_0 rfl rfl ?_
      refine ex_if_lt (q := 15) (q2 := 4) dX8_force_1 rfl rfl (fun hh => absurd hh (nI_pos (by omega))) (fun _ => ?_)
      refine ex_iload_n dX8_force_4 rfl rfl ?_
      refine ex_aload_n dX8_force_5 rfl rfl ?_
      refine ex_getR (b := 4) dX8_force_6 rfl qp_7_29 rfl rfl ?_
      refine ex_getI (s := 7) (x := nI (gx_n X)) dX8_force_9 rfl qp_7_75 rfl rfl (hC.2.1.1) ?_
      refine ex_icmp_lt (q := 18) (q2 := 15) dX8_force_12 rfl rfl (fun _ => ?_) (fun hh => absurd (nI_lt (a := q) (b := (gx_n X)) (by omega) (by omega)) hh)
      refine ex_aload_n dX8_force_18 rfl rfl ?_
      refine ex_getR (b := 22) dX8_force_19 rfl qp_7_10 rfl rfl ?_
      refine ex_getI (s := 10) (x := nI (tn_w T)) dX8_force_22 rfl qp_7_78 rfl rfl (h.2.1) ?_
      refine ex_istore_n (ls' := [some (.ref 54), some (.int (nI q)), some (.int (nI (tn_w T)))]) dX8_force_25 rfl (Nat.le_of_ble_eq_true rfl) rfl rfl ?_
      refine ex_aload_n dX8_force_26 rfl rfl ?_
      refine ex_getR (b := 22) dX8_force_27 rfl qp_7_10 rfl rfl ?_
      refine ex_iload_n dX8_force_30 rfl rfl ?_
      refine ex_put (σ' := qm_wI σ 10 (nI q)) dX8_force_31 rfl qp_7_78 rfl rfl (Or.inl rfl) rfl ?_
      refine ex_iload_n dX8_force_34 rfl rfl ?_
      exact ex_iret dX8_force_35 rfl rfl rfl
    · have h : MR σ T := hM.1
      refine ⟨_, ?_, MG.law hM q, (sm.rf σ 27 46 42 62).wI _ (by omega)⟩
      refine Ok.of (ls := [some (.ref 55), some (.int (nI q)), none]) (Nat.le_of_ble_eq_true rfl) rfl ?_
      refine ex_iload_n dX9_force_0 rfl rfl ?_
      refine ex_iconst (x := 0) dX9_force_1 rfl rfl ?_
      refine ex_aload_n dX9_force_2 rfl rfl ?_
      refine ex_getI (s := 30) (x := nI (gx_n X)) dX9_force_3 rfl qp_8_105 rfl rfl (hM.2.1.1) ?_
      refine ex_iconst (x := 1) dX9_force_6 rfl rfl ?_
      refine ex_isub (z := nI (gx_n X - 1)) dX9_force_7 rfl (e5) ?_
      refine ex_callS (rest := []) dX9_force_8 rfl qp_8_81 rfl rfl rfl (Nat.le_of_ble_eq_true rfl) (k_in _ _ _ _) (Nat.le_of_ble_eq_true rfl) ?_
      show Ex qm_lay _ mX9_force 11 [some (.ref 55), some (.int (nI q)), none] [.int (b2i (tn_in (nI q) 0 (nI (gx_n X - 1))))] σ _ _
      refine ex_if_ne (q := 17) (q2 := 14) dX9_force_11 rfl rfl (fun _ => ?_) (fun hh => absurd (b2i_n0.mpr ((tn_in_t (Nat.zero_le _) hq (by omega)))) hh)
      refine ex_aload_n dX9_force_17 rfl rfl ?_
      refine ex_getI (s := 31) (x := nI (tn_w T)) dX9_force_18 rfl qp_8_108 rfl rfl (h.1.2.1) ?_
      refine ex_istore_n (ls' := [some (.ref 55), some (.int (nI q)), some (.int (nI (tn_w T)))]) dX9_force_21 rfl (Nat.le_of_ble_eq_true rfl) rfl rfl ?_
      refine ex_aload_n dX9_force_22 rfl rfl ?_
      refine ex_iload_n dX9_force_23 rfl rfl ?_
      refine ex_put (σ' := qm_wI σ 31 (nI q)) dX9_force_24 rfl qp_8_108 rfl rfl (Or.inl rfl) rfl ?_
      refine ex_iload_n dX9_force_27 rfl rfl ?_
      exact ex_iret dX9_force_28 rfl rfl rfl
  · refine J.q hG (.int ((-2))) (fun σ hC => ?_) (fun σ hM => ?_)
    · have h : TR σ 9 18 T := hC.1
      refine Ok.of (ls := [some (.ref 54), some (.int t), none]) (Nat.le_of_ble_eq_true rfl) rfl ?_
      refine ex_iload_n dX8_force_0 rfl rfl ?_
      refine ex_if_lt (q := 15) (q2 := 4) dX8_force_1 rfl rfl (fun h1 => ?_) (fun h1 => ?_)
      · refine ex_bipush (x := (-2)) dX8_force_15 rfl rfl ?_
        exact ex_iret dX8_force_17 rfl rfl rfl
      · have hge : ¬ t < nI (gx_n X) := fun z => by
          have e1 := nI_toInt (n := gx_n X) (by omega)
          have e0 : (0 : Int32).toInt = 0 := rfl
          simp only [Int32.lt_iff_toInt_lt, e1, e0] at z h1
          omega
        refine ex_iload_n dX8_force_4 rfl rfl ?_
        refine ex_aload_n dX8_force_5 rfl rfl ?_
        refine ex_getR (b := 4) dX8_force_6 rfl qp_7_29 rfl rfl ?_
        refine ex_getI (s := 7) (x := nI (gx_n X)) dX8_force_9 rfl qp_7_75 rfl rfl (hC.2.1.1) ?_
        refine ex_icmp_lt (q := 18) (q2 := 15) dX8_force_12 rfl rfl (fun hh => absurd hh (hge)) (fun _ => ?_)
        refine ex_bipush (x := (-2)) dX8_force_15 rfl rfl ?_
        exact ex_iret dX8_force_17 rfl rfl rfl
    · have h : MR σ T := hM.1
      refine Ok.of (ls := [some (.ref 55), some (.int t), none]) (Nat.le_of_ble_eq_true rfl) rfl ?_
      refine ex_iload_n dX9_force_0 rfl rfl ?_
      refine ex_iconst (x := 0) dX9_force_1 rfl rfl ?_
      refine ex_aload_n dX9_force_2 rfl rfl ?_
      refine ex_getI (s := 30) (x := nI (gx_n X)) dX9_force_3 rfl qp_8_105 rfl rfl (hM.2.1.1) ?_
      refine ex_iconst (x := 1) dX9_force_6 rfl rfl ?_
      refine ex_isub (z := nI (gx_n X - 1)) dX9_force_7 rfl (e5) ?_
      refine ex_callS (rest := []) dX9_force_8 rfl qp_8_81 rfl rfl rfl (Nat.le_of_ble_eq_true rfl) (k_in _ _ _ _) (Nat.le_of_ble_eq_true rfl) ?_
      show Ex qm_lay _ mX9_force 11 [some (.ref 55), some (.int t), none] [.int (b2i (tn_in t 0 (nI (gx_n X - 1))))] σ _ _
      refine ex_if_ne (q := 17) (q2 := 14) dX9_force_11 rfl rfl (fun hh => absurd hh (fun zz => zz (b2i_0.mpr (tn_in_o (by omega) ho)))) (fun _ => ?_)
      refine ex_bipush (x := (-2)) dX9_force_14 rfl rfl ?_
      exact ex_iret dX9_force_16 rfl rfl rfl

set_option maxHeartbeats 2000000 in
theorem l_image {σ : qm_St} : ∀ (r k : Nat) (σ1 : qm_St), k + r = 7 → sm σ σ1 33 33 50 51 → (∀ l, l < k → qm_rF σ1 50 (l) = qm_rF σ 45 (l) ∧ qm_rF σ1 50 (7 + l) = qm_rF σ 46 (l) ∧ qm_rF σ1 50 (14 + l) = qm_rF σ 44 (l)) → ∃ σ', sm σ σ' 33 33 50 51 ∧ (∀ l, l < 7 → qm_rF σ' 50 (l) = qm_rF σ 45 (l) ∧ qm_rF σ' 50 (7 + l) = qm_rF σ 46 (l) ∧ qm_rF σ' 50 (14 + l) = qm_rF σ 44 (l)) ∧ ∀ v τ, Ex qm_lay 100 mX9_image 85 [some (.ref 55), some (.int 7)] [] σ' v τ → Ex qm_lay 100 mX9_image 31 [some (.ref 55), some (.int (nI k))] [] σ1 v τ := by
  intro r
  induction r with
  | zero =>
    intro k σ1 hk hs1 hq
    have hk7 : k = 7 := by omega
    subst hk7
    refine ⟨σ1, hs1, hq, fun v τ hE => ?_⟩
    refine ex_iload_n dX9_image_31 rfl rfl ?_
    refine ex_bipush (x := 7) dX9_image_32 rfl rfl ?_
    refine ex_icmp_ge (q := 85) (q2 := 37) dX9_image_34 rfl rfl (fun _ => ?_) (fun hh => absurd (nI_le (a := 7) (b := 7) (by decide) (by decide)) hh)
    exact hE
  | succ r ih =>
    intro k σ1 hk hs1 hq
    obtain ⟨σ', hs2, hq2, hE0⟩ := ih (k + 1) (qm_wF (qm_wF (qm_wF σ1 50 k (qm_rF σ 45 k)) 50 (7 + k) (qm_rF σ 46 k)) 50 (14 + k) (qm_rF σ 44 k)) (by omega) (((hs1.wF _ (by omega)).wF _ (by omega)).wF _ (by omega)) (fun l hl => by
      by_cases e : l = k
      · subst e
        exact ⟨by rw [rF_ne (by omega), rF_ne (by omega), rF_eq], by rw [rF_ne (by omega), rF_eq], by rw [rF_eq]⟩
      · obtain ⟨q1, q2, q3⟩ := hq l (by omega)
        exact ⟨by rw [rF_ne (by omega), rF_ne (by omega), rF_ne (by omega)]; exact q1, by rw [rF_ne (by omega), rF_ne (by omega), rF_ne (by omega)]; exact q2, by rw [rF_ne (by omega), rF_ne (by omega), rF_ne (by omega)]; exact q3⟩)
    refine ⟨σ', hs2, hq2, fun v τ hE => ?_⟩
    refine ex_iload_n dX9_image_31 rfl rfl ?_
    refine ex_bipush (x := 7) dX9_image_32 rfl rfl ?_
    refine ex_icmp_ge (q := 85) (q2 := 37) dX9_image_34 rfl rfl (fun hh => absurd hh (nI_ge (b := 7) (by omega) (by decide))) (fun _ => ?_)
    refine ex_aload_n dX9_image_37 rfl rfl ?_
    refine ex_getR (b := 64) dX9_image_38 rfl qp_8_34 rfl rfl ?_
    refine ex_iload_n dX9_image_41 rfl rfl ?_
    refine ex_aload_n dX9_image_42 rfl rfl ?_
    refine ex_getR (b := 59) dX9_image_43 rfl qp_8_19 rfl rfl ?_
    refine ex_iload_n dX9_image_46 rfl rfl ?_
    refine ex_iaload (k := k) (x := qm_rF σ 45 (k)) dX9_image_47 rfl rfl (rfl) (by omega) (by decide) (by exact hs1.2 _ (by omega) _) ?_
    refine ex_iastore (k := k) (σ' := qm_wF σ1 50 k (qm_rF σ 45 (k))) dX9_image_48 rfl rfl (rfl) (by omega) (by decide) rfl ?_
    refine ex_aload_n dX9_image_49 rfl rfl ?_
    refine ex_getR (b := 64) dX9_image_50 rfl qp_8_34 rfl rfl ?_
    refine ex_bipush (x := 7) dX9_image_53 rfl rfl ?_
    refine ex_iload_n dX9_image_55 rfl rfl ?_
    refine ex_iadd (z := nI (7 + k)) dX9_image_56 rfl (nI_add 7 k) ?_
    refine ex_aload_n dX9_image_57 rfl rfl ?_
    refine ex_getR (b := 60) dX9_image_58 rfl qp_8_22 rfl rfl ?_
    refine ex_iload_n dX9_image_61 rfl rfl ?_
    refine ex_iaload (k := k) (x := qm_rF σ 46 (k)) dX9_image_62 rfl rfl (rfl) (by omega) (by decide) (by rw [rF_ne (Or.inl (by decide))]; exact hs1.2 _ (by omega) _) ?_
    refine ex_iastore (k := 7 + k) (σ' := qm_wF (qm_wF σ1 50 k (qm_rF σ 45 (k))) 50 (7 + k) (qm_rF σ 46 (k))) dX9_image_63 rfl rfl (rfl) (by omega) (by decide) rfl ?_
    refine ex_aload_n dX9_image_64 rfl rfl ?_
    refine ex_getR (b := 64) dX9_image_65 rfl qp_8_34 rfl rfl ?_
    refine ex_bipush (x := 14) dX9_image_68 rfl rfl ?_
    refine ex_iload_n dX9_image_70 rfl rfl ?_
    refine ex_iadd (z := nI (14 + k)) dX9_image_71 rfl (nI_add 14 k) ?_
    refine ex_aload_n dX9_image_72 rfl rfl ?_
    refine ex_getR (b := 58) dX9_image_73 rfl qp_8_16 rfl rfl ?_
    refine ex_iload_n dX9_image_76 rfl rfl ?_
    refine ex_iaload (k := k) (x := qm_rF σ 44 (k)) dX9_image_77 rfl rfl (rfl) (by omega) (by decide) (by rw [rF_ne (Or.inl (by decide))]; rw [rF_ne (Or.inl (by decide))]; exact hs1.2 _ (by omega) _) ?_
    refine ex_iastore (k := 14 + k) (σ' := qm_wF (qm_wF (qm_wF σ1 50 k (qm_rF σ 45 (k))) 50 (7 + k) (qm_rF σ 46 (k))) 50 (14 + k) (qm_rF σ 44 (k))) dX9_image_78 rfl rfl (rfl) (by omega) (by decide) rfl ?_
    refine ex_iinc (y := nI (k + 1)) (ls' := [some (.ref 55), some (.int (nI (k + 1)))]) dX9_image_79 rfl rfl rfl (nI_add k 1) rfl ?_
    refine ex_goto (q := 31) dX9_image_82 rfl ?_
    exact hE0 v τ hE

set_option maxHeartbeats 2000000 in
theorem l_back {σ : qm_St} : ∀ (r k : Nat) (σ1 : qm_St), k + r = 7 → sm σ σ1 28 28 44 47 → (∀ l, l < k → qm_rF σ1 45 (l) = qm_rF σ 50 (l) ∧ qm_rF σ1 46 (l) = qm_rF σ 50 (7 + l) ∧ qm_rF σ1 44 (l) = qm_rF σ 50 (14 + l)) → ∃ σ', sm σ σ' 28 28 44 47 ∧ (∀ l, l < 7 → qm_rF σ' 45 (l) = qm_rF σ 50 (l) ∧ qm_rF σ' 46 (l) = qm_rF σ 50 (7 + l) ∧ qm_rF σ' 44 (l) = qm_rF σ 50 (14 + l)) ∧ ∀ v τ, Ex qm_lay 100 mX9_back 90 [some (.ref 55), some (.int 7)] [] σ' v τ → Ex qm_lay 100 mX9_back 36 [some (.ref 55), some (.int (nI k))] [] σ1 v τ := by
  intro r
  induction r with
  | zero =>
    intro k σ1 hk hs1 hq
    have hk7 : k = 7 := by omega
    subst hk7
    refine ⟨σ1, hs1, hq, fun v τ hE => ?_⟩
    refine ex_iload_n dX9_back_36 rfl rfl ?_
    refine ex_bipush (x := 7) dX9_back_37 rfl rfl ?_
    refine ex_icmp_ge (q := 90) (q2 := 42) dX9_back_39 rfl rfl (fun _ => ?_) (fun hh => absurd (nI_le (a := 7) (b := 7) (by decide) (by decide)) hh)
    exact hE
  | succ r ih =>
    intro k σ1 hk hs1 hq
    obtain ⟨σ', hs2, hq2, hE0⟩ := ih (k + 1) (qm_wF (qm_wF (qm_wF σ1 45 k (qm_rF σ 50 k)) 46 k (qm_rF σ 50 (7 + k))) 44 k (qm_rF σ 50 (14 + k))) (by omega) (((hs1.wF _ (by omega)).wF _ (by omega)).wF _ (by omega)) (fun l hl => by
      by_cases e : l = k
      · subst e
        exact ⟨by rw [rF_ne (by omega), rF_ne (by omega), rF_eq], by rw [rF_ne (by omega), rF_eq], by rw [rF_eq]⟩
      · obtain ⟨q1, q2, q3⟩ := hq l (by omega)
        exact ⟨by rw [rF_ne (by omega), rF_ne (by omega), rF_ne (by omega)]; exact q1, by rw [rF_ne (by omega), rF_ne (by omega), rF_ne (by omega)]; exact q2, by rw [rF_ne (by omega), rF_ne (by omega), rF_ne (by omega)]; exact q3⟩)
    refine ⟨σ', hs2, hq2, fun v τ hE => ?_⟩
    refine ex_iload_n dX9_back_36 rfl rfl ?_
    refine ex_bipush (x := 7) dX9_back_37 rfl rfl ?_
    refine ex_icmp_ge (q := 90) (q2 := 42) dX9_back_39 rfl rfl (fun hh => absurd hh (nI_ge (b := 7) (by omega) (by decide))) (fun _ => ?_)
    refine ex_aload_n dX9_back_42 rfl rfl ?_
    refine ex_getR (b := 59) dX9_back_43 rfl qp_8_19 rfl rfl ?_
    refine ex_iload_n dX9_back_46 rfl rfl ?_
    refine ex_aload_n dX9_back_47 rfl rfl ?_
    refine ex_getR (b := 64) dX9_back_48 rfl qp_8_34 rfl rfl ?_
    refine ex_iload_n dX9_back_51 rfl rfl ?_
    refine ex_iaload (k := k) (x := qm_rF σ 50 (k)) dX9_back_52 rfl rfl (rfl) (by omega) (by decide) (by exact hs1.2 _ (by omega) _) ?_
    refine ex_iastore (k := k) (σ' := qm_wF σ1 45 k (qm_rF σ 50 (k))) dX9_back_53 rfl rfl (rfl) (by omega) (by decide) rfl ?_
    refine ex_aload_n dX9_back_54 rfl rfl ?_
    refine ex_getR (b := 60) dX9_back_55 rfl qp_8_22 rfl rfl ?_
    refine ex_iload_n dX9_back_58 rfl rfl ?_
    refine ex_aload_n dX9_back_59 rfl rfl ?_
    refine ex_getR (b := 64) dX9_back_60 rfl qp_8_34 rfl rfl ?_
    refine ex_bipush (x := 7) dX9_back_63 rfl rfl ?_
    refine ex_iload_n dX9_back_65 rfl rfl ?_
    refine ex_iadd (z := nI (7 + k)) dX9_back_66 rfl (nI_add 7 k) ?_
    refine ex_iaload (k := 7 + k) (x := qm_rF σ 50 (7 + k)) dX9_back_67 rfl rfl (rfl) (by omega) (by decide) (by rw [rF_ne (Or.inl (by decide))]; exact hs1.2 _ (by omega) _) ?_
    refine ex_iastore (k := k) (σ' := qm_wF (qm_wF σ1 45 k (qm_rF σ 50 (k))) 46 k (qm_rF σ 50 (7 + k))) dX9_back_68 rfl rfl (rfl) (by omega) (by decide) rfl ?_
    refine ex_aload_n dX9_back_69 rfl rfl ?_
    refine ex_getR (b := 58) dX9_back_70 rfl qp_8_16 rfl rfl ?_
    refine ex_iload_n dX9_back_73 rfl rfl ?_
    refine ex_aload_n dX9_back_74 rfl rfl ?_
    refine ex_getR (b := 64) dX9_back_75 rfl qp_8_34 rfl rfl ?_
    refine ex_bipush (x := 14) dX9_back_78 rfl rfl ?_
    refine ex_iload_n dX9_back_80 rfl rfl ?_
    refine ex_iadd (z := nI (14 + k)) dX9_back_81 rfl (nI_add 14 k) ?_
    refine ex_iaload (k := 14 + k) (x := qm_rF σ 50 (14 + k)) dX9_back_82 rfl rfl (rfl) (by omega) (by decide) (by rw [rF_ne (Or.inl (by decide))]; rw [rF_ne (Or.inl (by decide))]; exact hs1.2 _ (by omega) _) ?_
    refine ex_iastore (k := k) (σ' := qm_wF (qm_wF (qm_wF σ1 45 k (qm_rF σ 50 (k))) 46 k (qm_rF σ 50 (7 + k))) 44 k (qm_rF σ 50 (14 + k))) dX9_back_83 rfl rfl (rfl) (by omega) (by decide) rfl ?_
    refine ex_iinc (y := nI (k + 1)) (ls' := [some (.ref 55), some (.int (nI (k + 1)))]) dX9_back_84 rfl rfl rfl (nI_add k 1) rfl ?_
    refine ex_goto (q := 36) dX9_back_87 rfl ?_
    exact hE0 v τ hE

set_option maxHeartbeats 2000000 in
theorem l_keeps {σ : qm_St} : ∀ (r k : Nat) (σ1 : qm_St), k + r = 7 → sm σ σ1 43 43 59 60 → (∀ l, l < k → qm_rF σ1 59 (l) = qm_rF σ 45 (l) ∧ qm_rF σ1 59 (7 + l) = qm_rF σ 46 (l) ∧ qm_rF σ1 59 (14 + l) = qm_rF σ 44 (l)) → ∃ σ', sm σ σ' 43 43 59 60 ∧ (∀ l, l < 7 → qm_rF σ' 59 (l) = qm_rF σ 45 (l) ∧ qm_rF σ' 59 (7 + l) = qm_rF σ 46 (l) ∧ qm_rF σ' 59 (14 + l) = qm_rF σ 44 (l)) ∧ ∀ v τ, Ex qm_lay 0 mX9_keeps 56 [some (.ref 55), some (.int 7)] [] σ' v τ → Ex qm_lay 0 mX9_keeps 2 [some (.ref 55), some (.int (nI k))] [] σ1 v τ := by
  intro r
  induction r with
  | zero =>
    intro k σ1 hk hs1 hq
    have hk7 : k = 7 := by omega
    subst hk7
    refine ⟨σ1, hs1, hq, fun v τ hE => ?_⟩
    refine ex_iload_n dX9_keeps_2 rfl rfl ?_
    refine ex_bipush (x := 7) dX9_keeps_3 rfl rfl ?_
    refine ex_icmp_ge (q := 56) (q2 := 8) dX9_keeps_5 rfl rfl (fun _ => ?_) (fun hh => absurd (nI_le (a := 7) (b := 7) (by decide) (by decide)) hh)
    exact hE
  | succ r ih =>
    intro k σ1 hk hs1 hq
    obtain ⟨σ', hs2, hq2, hE0⟩ := ih (k + 1) (qm_wF (qm_wF (qm_wF σ1 59 k (qm_rF σ 45 k)) 59 (7 + k) (qm_rF σ 46 k)) 59 (14 + k) (qm_rF σ 44 k)) (by omega) (((hs1.wF _ (by omega)).wF _ (by omega)).wF _ (by omega)) (fun l hl => by
      by_cases e : l = k
      · subst e
        exact ⟨by rw [rF_ne (by omega), rF_ne (by omega), rF_eq], by rw [rF_ne (by omega), rF_eq], by rw [rF_eq]⟩
      · obtain ⟨q1, q2, q3⟩ := hq l (by omega)
        exact ⟨by rw [rF_ne (by omega), rF_ne (by omega), rF_ne (by omega)]; exact q1, by rw [rF_ne (by omega), rF_ne (by omega), rF_ne (by omega)]; exact q2, by rw [rF_ne (by omega), rF_ne (by omega), rF_ne (by omega)]; exact q3⟩)
    refine ⟨σ', hs2, hq2, fun v τ hE => ?_⟩
    refine ex_iload_n dX9_keeps_2 rfl rfl ?_
    refine ex_bipush (x := 7) dX9_keeps_3 rfl rfl ?_
    refine ex_icmp_ge (q := 56) (q2 := 8) dX9_keeps_5 rfl rfl (fun hh => absurd hh (nI_ge (b := 7) (by omega) (by decide))) (fun _ => ?_)
    refine ex_aload_n dX9_keeps_8 rfl rfl ?_
    refine ex_getR (b := 73) dX9_keeps_9 rfl qp_8_61 rfl rfl ?_
    refine ex_iload_n dX9_keeps_12 rfl rfl ?_
    refine ex_aload_n dX9_keeps_13 rfl rfl ?_
    refine ex_getR (b := 59) dX9_keeps_14 rfl qp_8_19 rfl rfl ?_
    refine ex_iload_n dX9_keeps_17 rfl rfl ?_
    refine ex_iaload (k := k) (x := qm_rF σ 45 (k)) dX9_keeps_18 rfl rfl (rfl) (by omega) (by decide) (by exact hs1.2 _ (by omega) _) ?_
    refine ex_iastore (k := k) (σ' := qm_wF σ1 59 k (qm_rF σ 45 (k))) dX9_keeps_19 rfl rfl (rfl) (by omega) (by decide) rfl ?_
    refine ex_aload_n dX9_keeps_20 rfl rfl ?_
    refine ex_getR (b := 73) dX9_keeps_21 rfl qp_8_61 rfl rfl ?_
    refine ex_bipush (x := 7) dX9_keeps_24 rfl rfl ?_
    refine ex_iload_n dX9_keeps_26 rfl rfl ?_
    refine ex_iadd (z := nI (7 + k)) dX9_keeps_27 rfl (nI_add 7 k) ?_
    refine ex_aload_n dX9_keeps_28 rfl rfl ?_
    refine ex_getR (b := 60) dX9_keeps_29 rfl qp_8_22 rfl rfl ?_
    refine ex_iload_n dX9_keeps_32 rfl rfl ?_
    refine ex_iaload (k := k) (x := qm_rF σ 46 (k)) dX9_keeps_33 rfl rfl (rfl) (by omega) (by decide) (by rw [rF_ne (Or.inl (by decide))]; exact hs1.2 _ (by omega) _) ?_
    refine ex_iastore (k := 7 + k) (σ' := qm_wF (qm_wF σ1 59 k (qm_rF σ 45 (k))) 59 (7 + k) (qm_rF σ 46 (k))) dX9_keeps_34 rfl rfl (rfl) (by omega) (by decide) rfl ?_
    refine ex_aload_n dX9_keeps_35 rfl rfl ?_
    refine ex_getR (b := 73) dX9_keeps_36 rfl qp_8_61 rfl rfl ?_
    refine ex_bipush (x := 14) dX9_keeps_39 rfl rfl ?_
    refine ex_iload_n dX9_keeps_41 rfl rfl ?_
    refine ex_iadd (z := nI (14 + k)) dX9_keeps_42 rfl (nI_add 14 k) ?_
    refine ex_aload_n dX9_keeps_43 rfl rfl ?_
    refine ex_getR (b := 58) dX9_keeps_44 rfl qp_8_16 rfl rfl ?_
    refine ex_iload_n dX9_keeps_47 rfl rfl ?_
    refine ex_iaload (k := k) (x := qm_rF σ 44 (k)) dX9_keeps_48 rfl rfl (rfl) (by omega) (by decide) (by rw [rF_ne (Or.inl (by decide))]; rw [rF_ne (Or.inl (by decide))]; exact hs1.2 _ (by omega) _) ?_
    refine ex_iastore (k := 14 + k) (σ' := qm_wF (qm_wF (qm_wF σ1 59 k (qm_rF σ 45 (k))) 59 (7 + k) (qm_rF σ 46 (k))) 59 (14 + k) (qm_rF σ 44 (k))) dX9_keeps_49 rfl rfl (rfl) (by omega) (by decide) rfl ?_
    refine ex_iinc (y := nI (k + 1)) (ls' := [some (.ref 55), some (.int (nI (k + 1)))]) dX9_keeps_50 rfl rfl rfl (nI_add k 1) rfl ?_
    refine ex_goto (q := 2) dX9_keeps_53 rfl ?_
    exact hE0 v τ hE

set_option maxHeartbeats 2000000 in
theorem l_laysBack {σ : qm_St} : ∀ (r k : Nat) (σ1 : qm_St), k + r = 7 → sm σ σ1 28 28 44 47 → (∀ l, l < k → qm_rF σ1 45 (l) = qm_rF σ 59 (l) ∧ qm_rF σ1 46 (l) = qm_rF σ 59 (7 + l) ∧ qm_rF σ1 44 (l) = qm_rF σ 59 (14 + l)) → ∃ σ', sm σ σ' 28 28 44 47 ∧ (∀ l, l < 7 → qm_rF σ' 45 (l) = qm_rF σ 59 (l) ∧ qm_rF σ' 46 (l) = qm_rF σ 59 (7 + l) ∧ qm_rF σ' 44 (l) = qm_rF σ 59 (14 + l)) ∧ ∀ v τ, Ex qm_lay 0 mX9_laysBack 56 [some (.ref 55), some (.int 7)] [] σ' v τ → Ex qm_lay 0 mX9_laysBack 2 [some (.ref 55), some (.int (nI k))] [] σ1 v τ := by
  intro r
  induction r with
  | zero =>
    intro k σ1 hk hs1 hq
    have hk7 : k = 7 := by omega
    subst hk7
    refine ⟨σ1, hs1, hq, fun v τ hE => ?_⟩
    refine ex_iload_n dX9_laysBack_2 rfl rfl ?_
    refine ex_bipush (x := 7) dX9_laysBack_3 rfl rfl ?_
    refine ex_icmp_ge (q := 56) (q2 := 8) dX9_laysBack_5 rfl rfl (fun _ => ?_) (fun hh => absurd (nI_le (a := 7) (b := 7) (by decide) (by decide)) hh)
    exact hE
  | succ r ih =>
    intro k σ1 hk hs1 hq
    obtain ⟨σ', hs2, hq2, hE0⟩ := ih (k + 1) (qm_wF (qm_wF (qm_wF σ1 45 k (qm_rF σ 59 k)) 46 k (qm_rF σ 59 (7 + k))) 44 k (qm_rF σ 59 (14 + k))) (by omega) (((hs1.wF _ (by omega)).wF _ (by omega)).wF _ (by omega)) (fun l hl => by
      by_cases e : l = k
      · subst e
        exact ⟨by rw [rF_ne (by omega), rF_ne (by omega), rF_eq], by rw [rF_ne (by omega), rF_eq], by rw [rF_eq]⟩
      · obtain ⟨q1, q2, q3⟩ := hq l (by omega)
        exact ⟨by rw [rF_ne (by omega), rF_ne (by omega), rF_ne (by omega)]; exact q1, by rw [rF_ne (by omega), rF_ne (by omega), rF_ne (by omega)]; exact q2, by rw [rF_ne (by omega), rF_ne (by omega), rF_ne (by omega)]; exact q3⟩)
    refine ⟨σ', hs2, hq2, fun v τ hE => ?_⟩
    refine ex_iload_n dX9_laysBack_2 rfl rfl ?_
    refine ex_bipush (x := 7) dX9_laysBack_3 rfl rfl ?_
    refine ex_icmp_ge (q := 56) (q2 := 8) dX9_laysBack_5 rfl rfl (fun hh => absurd hh (nI_ge (b := 7) (by omega) (by decide))) (fun _ => ?_)
    refine ex_aload_n dX9_laysBack_8 rfl rfl ?_
    refine ex_getR (b := 59) dX9_laysBack_9 rfl qp_8_19 rfl rfl ?_
    refine ex_iload_n dX9_laysBack_12 rfl rfl ?_
    refine ex_aload_n dX9_laysBack_13 rfl rfl ?_
    refine ex_getR (b := 73) dX9_laysBack_14 rfl qp_8_61 rfl rfl ?_
    refine ex_iload_n dX9_laysBack_17 rfl rfl ?_
    refine ex_iaload (k := k) (x := qm_rF σ 59 (k)) dX9_laysBack_18 rfl rfl (rfl) (by omega) (by decide) (by exact hs1.2 _ (by omega) _) ?_
    refine ex_iastore (k := k) (σ' := qm_wF σ1 45 k (qm_rF σ 59 (k))) dX9_laysBack_19 rfl rfl (rfl) (by omega) (by decide) rfl ?_
    refine ex_aload_n dX9_laysBack_20 rfl rfl ?_
    refine ex_getR (b := 60) dX9_laysBack_21 rfl qp_8_22 rfl rfl ?_
    refine ex_iload_n dX9_laysBack_24 rfl rfl ?_
    refine ex_aload_n dX9_laysBack_25 rfl rfl ?_
    refine ex_getR (b := 73) dX9_laysBack_26 rfl qp_8_61 rfl rfl ?_
    refine ex_bipush (x := 7) dX9_laysBack_29 rfl rfl ?_
    refine ex_iload_n dX9_laysBack_31 rfl rfl ?_
    refine ex_iadd (z := nI (7 + k)) dX9_laysBack_32 rfl (nI_add 7 k) ?_
    refine ex_iaload (k := 7 + k) (x := qm_rF σ 59 (7 + k)) dX9_laysBack_33 rfl rfl (rfl) (by omega) (by decide) (by rw [rF_ne (Or.inl (by decide))]; exact hs1.2 _ (by omega) _) ?_
    refine ex_iastore (k := k) (σ' := qm_wF (qm_wF σ1 45 k (qm_rF σ 59 (k))) 46 k (qm_rF σ 59 (7 + k))) dX9_laysBack_34 rfl rfl (rfl) (by omega) (by decide) rfl ?_
    refine ex_aload_n dX9_laysBack_35 rfl rfl ?_
    refine ex_getR (b := 58) dX9_laysBack_36 rfl qp_8_16 rfl rfl ?_
    refine ex_iload_n dX9_laysBack_39 rfl rfl ?_
    refine ex_aload_n dX9_laysBack_40 rfl rfl ?_
    refine ex_getR (b := 73) dX9_laysBack_41 rfl qp_8_61 rfl rfl ?_
    refine ex_bipush (x := 14) dX9_laysBack_44 rfl rfl ?_
    refine ex_iload_n dX9_laysBack_46 rfl rfl ?_
    refine ex_iadd (z := nI (14 + k)) dX9_laysBack_47 rfl (nI_add 14 k) ?_
    refine ex_iaload (k := 14 + k) (x := qm_rF σ 59 (14 + k)) dX9_laysBack_48 rfl rfl (rfl) (by omega) (by decide) (by rw [rF_ne (Or.inl (by decide))]; rw [rF_ne (Or.inl (by decide))]; exact hs1.2 _ (by omega) _) ?_
    refine ex_iastore (k := k) (σ' := qm_wF (qm_wF (qm_wF σ1 45 k (qm_rF σ 59 (k))) 46 k (qm_rF σ 59 (7 + k))) 44 k (qm_rF σ 59 (14 + k))) dX9_laysBack_49 rfl rfl (rfl) (by omega) (by decide) rfl ?_
    refine ex_iinc (y := nI (k + 1)) (ls' := [some (.ref 55), some (.int (nI (k + 1)))]) dX9_laysBack_50 rfl rfl rfl (nI_add k 1) rfl ?_
    refine ex_goto (q := 2) dX9_laysBack_53 rfl ?_
    exact hE0 v τ hE

theorem k_keeps {σ : qm_St} {T : tn_T} (hT : tn_ok T) (h : MR σ T) : ∃ σ', Ok qm_lay 0 mX9_keeps [.ref 55] σ none σ' ∧ KP σ' T ∧ sm σ σ' 43 44 59 60 := by
  have hL := hT.1
  obtain ⟨σ', hs, hq, hE⟩ := l_keeps (σ := σ) 7 0 σ rfl (sm.rf _ _ _ _ _) (fun l hl => absurd hl (Nat.not_lt_zero l))
  refine ⟨qm_wI σ' 43 (tn_n T), ?_, ⟨rfl, fun l hl => ?_⟩, (hs.wid (i3 := 43) (i4 := 44) (j3 := 59) (j4 := 60) (by omega) (by omega)).wI _ (by omega)⟩
  rotate_left
  · obtain ⟨q1, q2, q3⟩ := hq l (by omega)
    exact ⟨q1.trans (MR.cc h hl), q2.trans (MR.ss h hl), q3.trans (MR.bb h hl)⟩
  refine Ok.of (ls := [some (.ref 55), none]) (Nat.le_of_ble_eq_true rfl) rfl ?_
  refine ex_iconst (x := 0) dX9_keeps_0 rfl rfl ?_
  refine ex_istore_n (ls' := [some (.ref 55), some (.int 0)]) dX9_keeps_1 rfl (Nat.le_of_ble_eq_true rfl) rfl rfl ?_
  refine hE _ _ ?_
  refine ex_aload_n dX9_keeps_56 rfl rfl ?_
  refine ex_aload_n dX9_keeps_57 rfl rfl ?_
  refine ex_getI (s := 28) (x := tn_n T) dX9_keeps_58 rfl qp_8_199 rfl rfl (by rw [hs.1 _ (by omega)]; exact h.2.1) ?_
  refine ex_put (σ' := qm_wI σ' 43 (tn_n T)) dX9_keeps_61 rfl qp_8_208 rfl rfl (Or.inl rfl) rfl ?_
  exact ex_vret dX9_keeps_64 rfl rfl rfl

theorem k_laysBack {σ : qm_St} {T : tn_T} (hT : tn_ok T) (h : KP σ T) (hM : MS σ T) : ∃ σ', Ok qm_lay 0 mX9_laysBack [.ref 55] σ none σ' ∧ MR σ' T ∧ sm σ σ' 28 29 44 47 := by
  have hL := hT.1
  obtain ⟨σ', hs, hq, hE⟩ := l_laysBack (σ := σ) 7 0 σ rfl (sm.rf _ _ _ _ _) (fun l hl => absurd hl (Nat.not_lt_zero l))
  have hs2 : sm σ (qm_wI σ' 28 (tn_n T)) 28 29 44 47 := (hs.wid (i3 := 28) (i4 := 29) (j3 := 44) (j4 := 47) (by omega) (by omega)).wI _ (by omega)
  refine ⟨_, ?_, ⟨hM.sm hs2 (by omega) (by omega), rfl, fun l hl => ?_⟩, hs2⟩
  rotate_left
  · obtain ⟨q1, q2, q3⟩ := hq l (by omega)
    obtain ⟨e1, e2, e3⟩ := h.2 l hl
    exact ⟨q3.trans e3, q1.trans e1, q2.trans e2⟩
  refine Ok.of (ls := [some (.ref 55), none]) (Nat.le_of_ble_eq_true rfl) rfl ?_
  refine ex_iconst (x := 0) dX9_laysBack_0 rfl rfl ?_
  refine ex_istore_n (ls' := [some (.ref 55), some (.int 0)]) dX9_laysBack_1 rfl (Nat.le_of_ble_eq_true rfl) rfl rfl ?_
  refine hE _ _ ?_
  refine ex_aload_n dX9_laysBack_56 rfl rfl ?_
  refine ex_aload_n dX9_laysBack_57 rfl rfl ?_
  refine ex_getI (s := 43) (x := tn_n T) dX9_laysBack_58 rfl qp_8_208 rfl rfl (by rw [hs.1 _ (by omega)]; exact h.1) ?_
  refine ex_put (σ' := qm_wI σ' 28 (tn_n T)) dX9_laysBack_61 rfl qp_8_199 rfl rfl (Or.inl rfl) rfl ?_
  exact ex_vret dX9_laysBack_64 rfl rfl rfl

set_option maxHeartbeats 2000000 in
theorem j_image {T : tn_T} {X : gx_T} {P : gt_T} {Im : gi_T} {S : gs_T} (hG : gg_ok (T, X, P, Im, S))  : J mX8_image mX9_image [] (T, X, P, Im, S) := by
  have hT : tn_ok T := hG.1
  have hX : gx_ok X := hG.2.1
  have hP : gt_ok P := hG.2.2.1
  have hI : gi_ok T (gx_n X) Im := hG.2.2.2.1
  have hS : gs_ok S := hG.2.2.2.2.1
  have hw : tn_w T < gx_n X := hG.2.2.2.2.2
  have hL := hT.1
  have hw6 := hT.2.1
  have hu := tn_u_lt hT
  have hX6 := hX.2.1
  have hP6 := hP.1
  have hL := hT.1
  refine J.u (.int (nI (tn_L T))) (T, X, P, ((true, T) : gi_T), S) ⟨hT, hX, hP, fun _ => ⟨hT, hw, Nat.le_refl _, fun l hl => ⟨rfl, rfl⟩⟩, hS, hw⟩ (fun σ hC => ?_) (fun σ hM => ?_)
  · have h : TR σ 9 18 T := hC.1
    obtain ⟨σ', hO, hR, hs⟩ := c_becomes_20 hT h
    have hs3 : sm σ (qm_wI σ' 26 1) 0 27 0 42 := (hs.wid (by omega) (by omega)).wI _ (by omega)
    have hb := (sm.rf σ' 26 27 0 0).wI (s := 26) 1 (by omega)
    have h' : TR (qm_wI σ' 26 1) 9 18 T := (h.sm hs (by omega) (by omega)).sm hb (by omega) (by omega)
    refine ⟨_, ?_, ⟨h', (hC.2.1.sm hX hs (by omega) (by omega)).sm hX hb (by omega) (by omega), (hC.2.2.1.sm hs (by omega) (by omega)).sm hb (by omega) (by omega), ⟨rfl, fun _ => hR.sm hb (by omega) (by omega)⟩, (hC.2.2.2.2.sm hs (by omega)).sm hb (by omega)⟩, hs3⟩
    refine Ok.of (ls := [some (.ref 54)]) (Nat.le_of_ble_eq_true rfl) rfl ?_
    refine ex_aload_n dX8_image_0 rfl rfl ?_
    refine ex_getR (b := 34) dX8_image_1 rfl qp_7_19 rfl rfl ?_
    refine ex_aload_n dX8_image_4 rfl rfl ?_
    refine ex_getR (b := 22) dX8_image_5 rfl qp_7_10 rfl rfl ?_
    refine ex_callV (a := 34) (rest := []) dX8_image_8 rfl qp_7_172 rfl rfl rfl rfl rfl (Nat.le_of_ble_eq_true rfl) (hO) (Nat.le_of_ble_eq_true rfl) ?_
    show Ex qm_lay _ mX8_image 11 [some (.ref 54)] [] σ' _ _
    refine ex_aload_n dX8_image_11 rfl rfl ?_
    refine ex_iconst (x := 1) dX8_image_12 rfl rfl ?_
    refine ex_put (σ' := qm_wI σ' 26 1) dX8_image_13 rfl qp_7_22 rfl rfl (Or.inr ⟨rfl, by decide⟩) rfl ?_
    refine ex_aload_n dX8_image_16 rfl rfl ?_
    refine ex_getR (b := 22) dX8_image_17 rfl qp_7_10 rfl rfl ?_
    refine ex_getI (s := 9) (x := nI (tn_L T)) dX8_image_20 rfl qp_7_61 rfl rfl (h'.1) ?_
    exact ex_iret dX8_image_23 rfl rfl rfl
  · have h : MR σ T := hM.1
    obtain ⟨σ', hs, hq, hE⟩ := l_image (σ := qm_wI (qm_wI (qm_wI (qm_wI σ 32 1) 33 (nI (tn_L T))) 34 (tn_n T)) 35 (nI (tn_w T))) 7 0 _ rfl (sm.rf _ _ _ _ _) (fun l hl => absurd hl (Nat.not_lt_zero l))
    have hs2 : sm σ σ' 32 36 50 51 := sm.tr (((((sm.rf σ 32 36 50 51).wI _ (by omega)).wI _ (by omega)).wI _ (by omega)).wI _ (by omega)) (hs.wid (by omega) (by omega))
    refine ⟨σ', ?_, ⟨hM.1.sm hs2 (by omega) (by omega), hM.2.1.sm hs2 (by omega) (by omega), hM.2.2.1.sm hs2 (by omega) (by omega), ⟨by rw [hs.1 _ (by omega)]; rfl, fun _ => ⟨by rw [hs.1 _ (by omega)]; rfl, by rw [hs.1 _ (by omega)]; rfl, by rw [hs.1 _ (by omega)]; rfl, fun l hl => ?_⟩⟩, hM.2.2.2.2.1.sm hs2 (by omega), hM.2.2.2.2.2.sm hs2 (by omega)⟩, hs2.wid (by omega) (by omega)⟩
    rotate_left
    · obtain ⟨q1, q2, q3⟩ := hq l (by have hl' : l < tn_L T := hl; omega)
      exact ⟨q1.trans (MR.cc h hl), q2.trans (MR.ss h hl), q3.trans (MR.bb h hl)⟩
    refine Ok.of (ls := [some (.ref 55), none]) (Nat.le_of_ble_eq_true rfl) rfl ?_
    refine ex_aload_n dX9_image_0 rfl rfl ?_
    refine ex_iconst (x := 1) dX9_image_1 rfl rfl ?_
    refine ex_put (σ' := qm_wI σ 32 1) dX9_image_2 rfl qp_8_310 rfl rfl (Or.inr ⟨rfl, by decide⟩) rfl ?_
    refine ex_aload_n dX9_image_5 rfl rfl ?_
    refine ex_aload_n dX9_image_6 rfl rfl ?_
    refine ex_getI (s := 27) (x := nI (tn_L T)) dX9_image_7 rfl qp_8_78 rfl rfl (h.1.1) ?_
    refine ex_put (σ' := qm_wI (qm_wI σ 32 1) 33 (nI (tn_L T))) dX9_image_10 rfl qp_8_314 rfl rfl (Or.inl rfl) rfl ?_
    refine ex_aload_n dX9_image_13 rfl rfl ?_
    refine ex_aload_n dX9_image_14 rfl rfl ?_
    refine ex_getI (s := 28) (x := tn_n T) dX9_image_15 rfl qp_8_199 rfl rfl (h.2.1) ?_
    refine ex_put (σ' := qm_wI (qm_wI (qm_wI σ 32 1) 33 (nI (tn_L T))) 34 (tn_n T)) dX9_image_18 rfl qp_8_317 rfl rfl (Or.inl rfl) rfl ?_
    refine ex_aload_n dX9_image_21 rfl rfl ?_
    refine ex_aload_n dX9_image_22 rfl rfl ?_
    refine ex_getI (s := 31) (x := nI (tn_w T)) dX9_image_23 rfl qp_8_108 rfl rfl (h.1.2.1) ?_
    refine ex_put (σ' := qm_wI (qm_wI (qm_wI (qm_wI σ 32 1) 33 (nI (tn_L T))) 34 (tn_n T)) 35 (nI (tn_w T))) dX9_image_26 rfl qp_8_320 rfl rfl (Or.inl rfl) rfl ?_
    refine ex_iconst (x := 0) dX9_image_29 rfl rfl ?_
    refine ex_istore_n (ls' := [some (.ref 55), some (.int 0)]) dX9_image_30 rfl (Nat.le_of_ble_eq_true rfl) rfl rfl ?_
    refine hE _ _ ?_
    refine ex_aload_n dX9_image_85 rfl rfl ?_
    refine ex_getI (s := 27) (x := nI (tn_L T)) dX9_image_86 rfl qp_8_78 rfl rfl ((by rw [hs.1 _ (by omega)]; exact h.1.1)) ?_
    exact ex_iret dX9_image_89 rfl rfl rfl

set_option maxHeartbeats 2000000 in
theorem j_back {T : tn_T} {X : gx_T} {P : gt_T} {Im : gi_T} {S : gs_T} (hG : gg_ok (T, X, P, Im, S))  : J mX8_back mX9_back [] (T, X, P, Im, S) := by
  have hT : tn_ok T := hG.1
  have hX : gx_ok X := hG.2.1
  have hP : gt_ok P := hG.2.2.1
  have hI : gi_ok T (gx_n X) Im := hG.2.2.2.1
  have hS : gs_ok S := hG.2.2.2.2.1
  have hw : tn_w T < gx_n X := hG.2.2.2.2.2
  have hL := hT.1
  have hw6 := hT.2.1
  have hu := tn_u_lt hT
  have hX6 := hX.2.1
  have hP6 := hP.1
  by_cases c1 : Im.1 = true
  · obtain ⟨g1, g2, g3, g4⟩ := hI c1
    have hL2 := g1.1
    refine J.u (.int (nI (tn_L Im.2))) (Im.2, X, P, Im, S) ⟨g1, hX, hP, fun _ => ⟨g1, g2, Nat.le_refl _, fun l hl => ⟨rfl, rfl⟩⟩, hS, g2⟩ (fun σ hC => ?_) (fun σ hM => ?_)
    · have h : TR σ 9 18 T := hC.1
      obtain ⟨σ', hO, hR, hs⟩ := c_becomes_02 g1 (hC.2.2.2.1.2 c1)
      refine ⟨σ', ?_, hC.town (G := (T, X, P, Im, S)) hG hR hs, hs.wid (by omega) (by omega)⟩
      refine Ok.of (ls := [some (.ref 54)]) (Nat.le_of_ble_eq_true rfl) rfl ?_
      refine ex_aload_n dX8_back_0 rfl rfl ?_
      refine ex_getI (s := 26) (x := b2i Im.1) dX8_back_1 rfl qp_7_22 rfl rfl (hC.2.2.2.1.1) ?_
      refine ex_if_ne (q := 10) (q2 := 7) dX8_back_4 rfl rfl (fun _ => ?_) (fun hh => absurd (b2i_n0.mpr (c1)) hh)
      refine ex_aload_n dX8_back_10 rfl rfl ?_
      refine ex_getR (b := 22) dX8_back_11 rfl qp_7_10 rfl rfl ?_
      refine ex_aload_n dX8_back_14 rfl rfl ?_
      refine ex_getR (b := 34) dX8_back_15 rfl qp_7_19 rfl rfl ?_
      refine ex_callV (a := 22) (rest := []) dX8_back_18 rfl qp_7_172 rfl rfl rfl rfl rfl (Nat.le_of_ble_eq_true rfl) (hO) (Nat.le_of_ble_eq_true rfl) ?_
      show Ex qm_lay _ mX8_back 21 [some (.ref 54)] [] σ' _ _
      refine ex_aload_n dX8_back_21 rfl rfl ?_
      refine ex_getR (b := 22) dX8_back_22 rfl qp_7_10 rfl rfl ?_
      refine ex_getI (s := 9) (x := nI (tn_L Im.2)) dX8_back_25 rfl qp_7_61 rfl rfl (hR.1) ?_
      exact ex_iret dX8_back_28 rfl rfl rfl
    · have h : MR σ T := hM.1
      obtain ⟨m1, m2, m3, m4⟩ := hM.2.2.2.1.2 c1
      obtain ⟨σ', hs, hq, hE⟩ := l_back (σ := qm_wI (qm_wI (qm_wI σ 27 (nI (tn_L Im.2))) 28 (tn_n Im.2)) 31 (nI (tn_w Im.2))) 7 0 _ rfl (sm.rf _ _ _ _ _) (fun l hl => absurd hl (Nat.not_lt_zero l))
      have hs2 : sm σ σ' 27 32 44 47 := sm.tr ((((sm.rf σ 27 32 44 47).wI _ (by omega)).wI _ (by omega)).wI _ (by omega)) (hs.wid (by omega) (by omega))
      have hs29 : qm_rI σ' 29 = qm_rI σ 29 := by rw [hs.1 _ (by omega)]; rfl
      have hs30 : qm_rI σ' 30 = qm_rI σ 30 := by rw [hs.1 _ (by omega)]; rfl
      refine ⟨σ', ?_, ⟨⟨⟨by rw [hs.1 _ (by omega)]; rfl, by rw [hs.1 _ (by omega)]; rfl, fun l hl => ?_⟩, by rw [hs.1 _ (by omega)]; rfl, fun l hl => ?_⟩, ⟨hs30.trans hM.2.1.1, fun t ht => ⟨fun p hp => by rw [hs2.2 _ (by omega)]; exact (hM.2.1.2 t ht).1 p hp, fun q hq => by rw [hs2.2 _ (by omega)]; exact (hM.2.1.2 t ht).2 q hq⟩⟩, ⟨hs29.trans hM.2.2.1.1, fun i hi => by rw [hs2.2 _ (by omega)]; exact hM.2.2.1.2 i hi⟩, hM.2.2.2.1.sm hs2 (by omega) (by omega), hM.2.2.2.2.1.sm hs2 (by omega), hM.2.2.2.2.2.sm hs2 (by omega)⟩, hs2.wid (by omega) (by omega)⟩
      rotate_left
      · have hl' : l < tn_L Im.2 := hl
        rw [hs2.2 _ (by omega), hs2.2 _ (by omega)]
        exact ⟨(MR.kk h (by omega)).trans (congrArg nI (g4 l hl').1.symm), (MR.mm h (by omega)).trans (congrArg nI (g4 l hl').2.symm)⟩
      · have hl' : l < tn_L Im.2 := hl
        obtain ⟨q1, q2, q3⟩ := hq l (by omega)
        obtain ⟨e1, e2, e3⟩ := m4 l hl'
        exact ⟨q3.trans e3, q1.trans e1, q2.trans e2⟩
      refine Ok.of (ls := [some (.ref 55), none]) (Nat.le_of_ble_eq_true rfl) rfl ?_
      refine ex_aload_n dX9_back_0 rfl rfl ?_
      refine ex_getI (s := 32) (x := b2i Im.1) dX9_back_1 rfl qp_8_310 rfl rfl (hM.2.2.2.1.1) ?_
      refine ex_if_ne (q := 10) (q2 := 7) dX9_back_4 rfl rfl (fun _ => ?_) (fun hh => absurd (b2i_n0.mpr (c1)) hh)
      refine ex_aload_n dX9_back_10 rfl rfl ?_
      refine ex_aload_n dX9_back_11 rfl rfl ?_
      refine ex_getI (s := 33) (x := nI (tn_L Im.2)) dX9_back_12 rfl qp_8_314 rfl rfl (m1) ?_
      refine ex_put (σ' := qm_wI σ 27 (nI (tn_L Im.2))) dX9_back_15 rfl qp_8_78 rfl rfl (Or.inl rfl) rfl ?_
      refine ex_aload_n dX9_back_18 rfl rfl ?_
      refine ex_aload_n dX9_back_19 rfl rfl ?_
      refine ex_getI (s := 34) (x := tn_n Im.2) dX9_back_20 rfl qp_8_317 rfl rfl (m2) ?_
      refine ex_put (σ' := qm_wI (qm_wI σ 27 (nI (tn_L Im.2))) 28 (tn_n Im.2)) dX9_back_23 rfl qp_8_199 rfl rfl (Or.inl rfl) rfl ?_
      refine ex_aload_n dX9_back_26 rfl rfl ?_
      refine ex_aload_n dX9_back_27 rfl rfl ?_
      refine ex_getI (s := 35) (x := nI (tn_w Im.2)) dX9_back_28 rfl qp_8_320 rfl rfl (m3) ?_
      refine ex_put (σ' := qm_wI (qm_wI (qm_wI σ 27 (nI (tn_L Im.2))) 28 (tn_n Im.2)) 31 (nI (tn_w Im.2))) dX9_back_31 rfl qp_8_108 rfl rfl (Or.inl rfl) rfl ?_
      refine ex_iconst (x := 0) dX9_back_34 rfl rfl ?_
      refine ex_istore_n (ls' := [some (.ref 55), some (.int 0)]) dX9_back_35 rfl (Nat.le_of_ble_eq_true rfl) rfl rfl ?_
      refine hE _ _ ?_
      refine ex_aload_n dX9_back_90 rfl rfl ?_
      refine ex_getI (s := 27) (x := nI (tn_L Im.2)) dX9_back_91 rfl qp_8_78 rfl rfl ((by rw [hs.1 _ (by omega)]; rfl)) ?_
      exact ex_iret dX9_back_94 rfl rfl rfl
  · refine J.q hG (.int ((-3))) (fun σ hC => ?_) (fun σ hM => ?_)
    · have h : TR σ 9 18 T := hC.1
      refine Ok.of (ls := [some (.ref 54)]) (Nat.le_of_ble_eq_true rfl) rfl ?_
      refine ex_aload_n dX8_back_0 rfl rfl ?_
      refine ex_getI (s := 26) (x := b2i Im.1) dX8_back_1 rfl qp_7_22 rfl rfl (hC.2.2.2.1.1) ?_
      refine ex_if_ne (q := 10) (q2 := 7) dX8_back_4 rfl rfl (fun hh => absurd hh (fun zz => zz (b2i_0.mpr (by simpa using c1)))) (fun _ => ?_)
      refine ex_bipush (x := (-3)) dX8_back_7 rfl rfl ?_
      exact ex_iret dX8_back_9 rfl rfl rfl
    · have h : MR σ T := hM.1
      refine Ok.of (ls := [some (.ref 55), none]) (Nat.le_of_ble_eq_true rfl) rfl ?_
      refine ex_aload_n dX9_back_0 rfl rfl ?_
      refine ex_getI (s := 32) (x := b2i Im.1) dX9_back_1 rfl qp_8_310 rfl rfl (hM.2.2.2.1.1) ?_
      refine ex_if_ne (q := 10) (q2 := 7) dX9_back_4 rfl rfl (fun hh => absurd hh (fun zz => zz (b2i_0.mpr (by simpa using c1)))) (fun _ => ?_)
      refine ex_bipush (x := (-3)) dX9_back_7 rfl rfl ?_
      exact ex_iret dX9_back_9 rfl rfl rfl

