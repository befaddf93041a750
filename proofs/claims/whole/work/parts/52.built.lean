/-! ===== orders that are built ===== -/
theorem tn_nb_bits {T : tn_T} (hT : tn_ok T) : tn_nb T < 2 ^ tn_L T ∧ ∀ l, l < 7 → (tn_nb T).testBit l = (decide (l < tn_L T) && !(tn_u T).testBit l) := by
  have h : tn_nb T < 2 ^ tn_L T := Nat.xor_lt_two_pow (by have := Nat.two_pow_pos (tn_L T); omega) hT.2.2.1
  refine ⟨h, fun l hl => ?_⟩
  rw [tn_nb, Nat.testBit_xor, Nat.testBit_two_pow_sub_one]
  by_cases e : l < tn_L T
  · rw [decide_eq_true e]; cases (tn_u T).testBit l <;> rfl
  · rw [decide_eq_false e]
    cases hz : (tn_u T).testBit l with
    | false => rfl
    | true => exact absurd (bit_lt hT.2.2.1 hz) e
theorem bl_ok {T : tn_T} (hT : tn_ok T) {X : gx_T} {P : gt_T} {Im : gi_T} {S : gs_T} (hG : gg_ok (T, X, P, Im, S)) {os : List Nat} (ho : ∀ l ∈ os, l < tn_L T) : gg_ok (tn_bl T os, X, P, Im, S) := by
  obtain ⟨q1, q2, q3, q4, q5⟩ := tn_bl_same os T
  exact ⟨tn_bl_ok os hT ho, hG.2.1, hG.2.2.1, gi_ok.ext hG.2.2.2.1 q1 q5 q4, hG.2.2.2.2.1, by show tn_w (tn_bl T os) < gx_n X; rw [q2]; exact hG.2.2.2.2.2⟩
/-- kept, built, laid back: how much may have changed -/
theorem back_sl2 {σ σ1 σ2 σ3 : qm_St} {T : tn_T} (h : MR σ T) (h3 : MR σ3 T) (s1 : sm σ σ1 43 44 59 60) (s2 : sm σ1 σ2 28 29 45 47) (s3 : sm σ2 σ3 28 29 44 47) : sl σ σ3 43 44 44 47 59 60 := by
  refine ⟨fun s hs => ?_, fun r hr hr2 k => ?_⟩
  · by_cases e : s = 28
    · subst e
      have e1 : qm_rI σ3 28 = tn_n T := h3.2.1
      have e2 : qm_rI σ 28 = tn_n T := h.2.1
      rw [e1, e2]
    · rw [s3.1 s (by omega), s2.1 s (by omega), s1.1 s (by omega)]
  · rw [s3.2 r (by omega), s2.2 r (by omega), s1.2 r (by omega)]
theorem RR.sl {σ σ' : qm_St} {os : List Nat} (h : RR σ os) (g : sl σ σ' 43 44 44 47 59 60) : RR σ' os := ⟨by rw [g.1 _ (by omega)]; exact h.1, h.2.1, fun i hi' => by rw [g.2 _ (by omega) (by omega)]; exact h.2.2 i hi'⟩
/-- what building now is worth, n being built ahead -/
def wb (T : tn_T) (X : gx_T) (l : Nat) (os : List Nat) (n : Nat) : Int32 := sx_says T X 0 l (nI (tn_wd (tn_bl T (os.take n)) l)) (nI n) - sx_says T X 1 l (nI (tn_wd (tn_bl T (os.take n)) l)) (nI n)
/-- the best of k .. k + r - 1, so much being known: (worth, n) -/
def wb_go (T : tn_T) (X : gx_T) (l : Nat) (os : List Nat) : Nat → Nat → Int32 × Nat → Int32 × Nat
  | 0, _, p => p
  | r + 1, k, p => wb_go T X l os r (k + 1) (if p.1 < wb T X l os k then (wb T X l os k, k) else p)
theorem wn_99 (v : Int32) : ∃ n : Nat, n ≤ 99 ∧ tn_wn v 0 99 = nI n := by
  unfold tn_wn
  by_cases h : v < 0
  · exact ⟨0, by decide, by rw [if_pos h]; rfl⟩
  · rw [if_neg h]
    by_cases g : 99 < v
    · exact ⟨99, by decide, by rw [if_pos g]; rfl⟩
    · rw [if_neg g]
      obtain ⟨j, hj, rfl⟩ := nI_of h
      exact ⟨j, (nI_leI (b := 99) hj (by decide)).mp (Int32.not_lt.mp g), rfl⟩
theorem wb_min (T : tn_T) (X : gx_T) (l : Nat) (os : List Nat) (n : Nat) : (-2147483648 : Int32) < wb T X l os n := by
  unfold wb sx_says
  rw [if_neg (show ¬ (0 : Nat) = 2 by decide), if_neg (show ¬ (1 : Nat) = 2 by decide)]
  obtain ⟨a, ha, ea⟩ := wn_99 (sx_v T X 0 l (nI (tn_wd (tn_bl T (os.take n)) l)) (nI n))
  obtain ⟨b, hb, eb⟩ := wn_99 (sx_v T X 1 l (nI (tn_wd (tn_bl T (os.take n)) l)) (nI n))
  rw [ea, eb, Int32.lt_iff_toInt_lt, pk_sub_toInt (by omega) (by omega)]
  have e : (-2147483648 : Int32).toInt = -2147483648 := by decide
  rw [e]; omega
theorem os_take_ok {os : List Nat} {L n : Nat} (h : ∀ l ∈ os, l < L) : ∀ l ∈ os.take n, l < L := fun l hl => h l (List.mem_of_mem_take hl)

set_option maxHeartbeats 2000000 in
theorem l_buildsRow {σ : qm_St} {T : tn_T} (hT : tn_ok T) {os : List Nat} (hor : RR σ os) (hos : ∀ l ∈ os, l < tn_L T) {n : Nat} (hn : n ≤ os.length) : ∀ (r k : Nat) (σ1 : qm_St), k + r = n → MR σ1 (tn_bl T (os.take k)) → sm σ σ1 28 29 45 47 → ∃ σ', Ex qm_lay 4 mX9_buildsRow 2 [some (.ref 55), some (.int (nI n)), some (.int (nI k))] [] σ1 none σ' ∧ MR σ' (tn_bl T (os.take n)) ∧ sm σ σ' 28 29 45 47 := by
  have ho7 := hor.2.1
  intro r
  induction r with
  | zero =>
    intro k σ1 hk h1 hs1
    refine ⟨σ1, ?_, by rw [← show k = n by omega]; exact h1, hs1⟩
    refine ex_iload_n dX9_buildsRow_2 rfl rfl ?_
    refine ex_iload_n dX9_buildsRow_3 rfl rfl ?_
    refine ex_icmp_ge (q := 33) (q2 := 7) dX9_buildsRow_4 rfl rfl (fun _ => ?_) (fun hh => absurd (nI_le (by omega) (by omega)) hh)
    exact ex_vret dX9_buildsRow_33 rfl rfl rfl
  | succ r ih =>
    intro k σ1 hk h1 hs1
    have hok := tn_bl_ok (os.take k) hT (fun l hl => hos l (List.mem_of_mem_take hl))
    have hlk : os.getD k 0 < tn_L (tn_bl T (os.take k)) := by rw [tn_bl_L]; exact hos _ (getD_mem (by omega))
    obtain ⟨σ2, hO, hT2, hs2⟩ := k_builds hok h1 hlk (tn_wd (tn_bl T (os.take k)) (os.getD k 0))
    obtain ⟨σ3, hE, hT3, hs3⟩ := ih (k + 1) σ2 (by omega) (by rw [tn_bl_take (by omega)]; exact hT2) (hs1.tr hs2)
    refine ⟨σ3, ?_, hT3, hs3⟩
    refine ex_iload_n dX9_buildsRow_2 rfl rfl ?_
    refine ex_iload_n dX9_buildsRow_3 rfl rfl ?_
    refine ex_icmp_ge (q := 33) (q2 := 7) dX9_buildsRow_4 rfl rfl (fun hh => absurd hh (nI_ge (by omega) (by omega))) (fun _ => ?_)
    refine ex_aload_n dX9_buildsRow_7 rfl rfl ?_
    refine ex_aload_n dX9_buildsRow_8 rfl rfl ?_
    refine ex_getR (b := 74) dX9_buildsRow_9 rfl qp_8_64 rfl rfl ?_
    refine ex_iload_n dX9_buildsRow_12 rfl rfl ?_
    refine ex_iaload (k := k) (x := nI (os.getD k 0)) dX9_buildsRow_13 rfl rfl (rfl) (by omega) (by decide) ((RR.sm hor hs1 (by omega) (by omega)).2.2 k (by omega)) ?_
    refine ex_aload_n dX9_buildsRow_14 rfl rfl ?_
    refine ex_aload_n dX9_buildsRow_15 rfl rfl ?_
    refine ex_getR (b := 74) dX9_buildsRow_16 rfl qp_8_64 rfl rfl ?_
    refine ex_iload_n dX9_buildsRow_19 rfl rfl ?_
    refine ex_iaload (k := k) (x := nI (os.getD k 0)) dX9_buildsRow_20 rfl rfl (rfl) (by omega) (by decide) ((RR.sm hor hs1 (by omega) (by omega)).2.2 k (by omega)) ?_
    refine ex_callV (a := 55) (rest := [.int (nI (os.getD k 0)), .ref 55]) dX9_buildsRow_21 rfl qp_8_202 rfl rfl rfl rfl rfl (Nat.le_of_ble_eq_true rfl) (k_wouldTake hok h1 hlk) (Nat.le_of_ble_eq_true rfl) ?_
    show Ex qm_lay _ mX9_buildsRow 24 [some (.ref 55), some (.int (nI n)), some (.int (nI k))] [.int (nI (tn_wd (tn_bl T (os.take k)) (os.getD k 0))), .int (nI (os.getD k 0)), .ref 55] σ1 _ _
    refine ex_callV (a := 55) (rest := []) dX9_buildsRow_24 rfl qp_8_205 rfl rfl rfl rfl rfl (Nat.le_of_ble_eq_true rfl) (hO) (Nat.le_of_ble_eq_true rfl) ?_
    show Ex qm_lay _ mX9_buildsRow 27 [some (.ref 55), some (.int (nI n)), some (.int (nI k))] [] σ2 _ _
    refine ex_iinc (y := nI (k + 1)) (ls' := [some (.ref 55), some (.int (nI n)), some (.int (nI (k + 1)))]) dX9_buildsRow_27 rfl rfl rfl (nI_add k 1) rfl ?_
    refine ex_goto (q := 2) dX9_buildsRow_30 rfl ?_
    exact hE

set_option maxHeartbeats 2000000 in
theorem k_buildsRow {σ : qm_St} {T : tn_T} (hT : tn_ok T) (h : MR σ T) {os : List Nat} (hor : RR σ os) (hos : ∀ l ∈ os, l < tn_L T) {n : Nat} (hn : n ≤ os.length) : ∃ σ', Ok qm_lay 4 mX9_buildsRow [.ref 55, .int (nI n)] σ none σ' ∧ MR σ' (tn_bl T (os.take n)) ∧ sm σ σ' 28 29 45 47 := by
  obtain ⟨σ', hE, hR, hs⟩ := l_buildsRow hT hor hos hn n 0 σ (by omega) (by rw [List.take_zero]; exact h) (sm.rf _ _ _ _ _)
  refine ⟨σ', ?_, hR, hs⟩
  refine Ok.of (ls := [some (.ref 55), some (.int (nI n)), none]) (Nat.le_of_ble_eq_true rfl) rfl ?_
  refine ex_iconst (x := 0) dX9_buildsRow_0 rfl rfl ?_
  refine ex_istore_n (ls' := [some (.ref 55), some (.int (nI n)), some (.int 0)]) dX9_buildsRow_1 rfl (Nat.le_of_ble_eq_true rfl) rfl rfl ?_
  exact hE

set_option maxHeartbeats 2000000 in
theorem k_manyByRow {σ : qm_St} {T : tn_T} (hT : tn_ok T) (h : MR σ T) {os : List Nat} (hor : RR σ os) (hos : ∀ l ∈ os, l < tn_L T) : ∃ σ', Ok qm_lay 6 mX9_manyByRow [.ref 55] σ (some (.int (nI (tn_pc (tn_cb (tn_bl T os)))))) σ' ∧ MR σ' T ∧ sl σ σ' 43 44 44 47 59 60 := by
  obtain ⟨σ1, hO1, hK1, hs1⟩ := k_keeps hT h
  obtain ⟨σ2, hO2, hR2, hs2⟩ := k_buildsRow hT (h.sm hs1 (by omega) (by omega)) (hor.sm hs1 (by omega) (by omega)) hos (n := os.length) (Nat.le_refl _)
  have hok2 := tn_bl_ok (os.take (os.length)) hT (os_take_ok hos)
  obtain ⟨q1, q2, q3, q4, q5⟩ := tn_bl_same (os.take (os.length)) T
  obtain ⟨σ3, hO3, hR3, hs3⟩ := k_laysBack hT (hK1.sm hs2 (by omega) (by omega)) (MS.ext hR2.1 q1.symm q2.symm q5.symm q4.symm)
  have hsl := back_sl2 h hR3 hs1 hs2 hs3
  refine ⟨σ3, ?_, hR3, hsl⟩
  refine Ok.of (ls := [some (.ref 55), none]) (Nat.le_of_ble_eq_true rfl) rfl ?_
  refine ex_aload_n dX9_manyByRow_0 rfl rfl ?_
  refine ex_callV (a := 55) (rest := []) dX9_manyByRow_1 rfl qp_8_226 rfl rfl rfl rfl rfl (Nat.le_of_ble_eq_true rfl) (hO1) (Nat.le_of_ble_eq_true rfl) ?_
  show Ex qm_lay _ mX9_manyByRow 4 [some (.ref 55), none] [] σ1 _ _
  refine ex_aload_n dX9_manyByRow_4 rfl rfl ?_
  refine ex_aload_n dX9_manyByRow_5 rfl rfl ?_
  refine ex_getI (s := 44) (x := nI os.length) dX9_manyByRow_6 rfl qp_8_235 rfl rfl ((hor.sm hs1 (by omega) (by omega)).1) ?_
  refine ex_callV (a := 55) (rest := []) dX9_manyByRow_9 rfl qp_8_241 rfl rfl rfl rfl rfl (Nat.le_of_ble_eq_true rfl) (hO2) (Nat.le_of_ble_eq_true rfl) ?_
  show Ex qm_lay _ mX9_manyByRow 12 [some (.ref 55), none] [] σ2 _ _
  refine ex_aload_n dX9_manyByRow_12 rfl rfl ?_
  refine ex_callV (a := 55) (rest := []) dX9_manyByRow_13 rfl qp_8_99 rfl rfl rfl rfl rfl (Nat.le_of_ble_eq_true rfl) (k_howMany hok2 hR2) (Nat.le_of_ble_eq_true rfl) ?_
  show Ex qm_lay _ mX9_manyByRow 16 [some (.ref 55), none] [.int (nI (tn_pc (tn_cb (tn_bl T (os.take os.length)))))] σ2 _ _
  refine ex_istore_n (ls' := [some (.ref 55), some (.int (nI (tn_pc (tn_cb (tn_bl T (os.take os.length))))))]) dX9_manyByRow_16 rfl (Nat.le_of_ble_eq_true rfl) rfl rfl ?_
  refine ex_aload_n dX9_manyByRow_17 rfl rfl ?_
  refine ex_callV (a := 55) (rest := []) dX9_manyByRow_18 rfl qp_8_229 rfl rfl rfl rfl rfl (Nat.le_of_ble_eq_true rfl) (hO3) (Nat.le_of_ble_eq_true rfl) ?_
  show Ex qm_lay _ mX9_manyByRow 21 [some (.ref 55), some (.int (nI (tn_pc (tn_cb (tn_bl T (os.take os.length))))))] [] σ3 _ _
  refine ex_iload_n dX9_manyByRow_21 rfl rfl ?_
  exact ex_iret dX9_manyByRow_22 rfl (by rw [List.take_length]) rfl

set_option maxHeartbeats 2000000 in
theorem j_raise {T : tn_T} {X : gx_T} {P : gt_T} {Im : gi_T} {S : gs_T} (hG : gg_ok (T, X, P, Im, S)) (s : Int32) : J mX8_raise mX9_raise [.int s] (T, X, P, Im, S) := by
  have hT : tn_ok T := hG.1
  have hX : gx_ok X := hG.2.1
  have hP : gt_ok P := hG.2.2.1
  have hI : gi_ok T (gx_n X) Im := hG.2.2.2.1
  have hS : gs_ok S := hG.2.2.2.2.1
  have hw : tn_w T < gx_n X := hG.2.2.2.2.2
  have hL := hT.1
  have hw6 := hT.2.1
  have hu := tn_u_lt hT
  have hX6 := hX.2.1
  have hP6 := hP.1
  have hnb := tn_nb_bits hT
  have h128 : 2 ^ tn_L T ≤ 128 := Nat.pow_le_pow_right (n := 2) (by omega) hL
  have hnb7 : tn_nb T < 128 := by omega
  by_cases c1 : gs_ro S s (tn_nb T) = 0
  · obtain ⟨s, os, hs4, rfl, hso⟩ := gs_ro_0 c1
    have hso2 := so_of hnb7 hso
    have hos : ∀ l ∈ os, l < tn_L T := fun l hl => by
      obtain ⟨g1, g2⟩ := hso2.2.2.1 l hl
      exact bit_lt hnb.1 g2
    have ho7 : os.length ≤ 7 := by rw [hso2.1]; exact tn_pc_7 _ hnb7
    have hne : ¬ S.1 s = -1 := fun z => by rw [gs_ro_t hs4, if_pos z] at c1; exact absurd c1 (by decide)
    refine J.u (.int (nI (tn_pc (tn_cb (tn_bl T os))))) (tn_bl T os, X, P, Im, S) (bl_ok hT hG hos) (fun σ hC => ?_) (fun σ hM => ?_)
    · have h : TR σ 9 18 T := hC.1
      obtain ⟨σo, hOo, hord, hso1⟩ := c_refusalOfOrder hG hC (nI s) hnb7
      have hord := hord s os rfl hs4 hso hne
      have hCo := CG.aux hG hC (hso1.wid (by omega) (by omega))
      have ho : TR σo 9 18 T := hCo.1
      have hok2 := tn_bl_ok (os.take os.length) hT (os_take_ok hos)
      obtain ⟨σ', hO, hR, hs⟩ := c_buildFirst_0 hT ho hord hos (n := os.length) (Nat.le_refl _)
      refine ⟨σ', ?_, (by have z := hR; rw [List.take_length] at z; exact CG.town hG hCo z hs), (hso1.wid (by omega) (by omega)).tr (hs.wid (by omega) (by omega))⟩
      refine Ok.of (ls := [some (.ref 54), some (.int (nI s)), none]) (Nat.le_of_ble_eq_true rfl) rfl ?_
      refine ex_aload_n dX8_raise_0 rfl rfl ?_
      refine ex_iload_n dX8_raise_1 rfl rfl ?_
      refine ex_aload_n dX8_raise_2 rfl rfl ?_
      refine ex_getR (b := 22) dX8_raise_3 rfl qp_7_10 rfl rfl ?_
      refine ex_callV (a := 22) (rest := [.int (nI s), .ref 54]) dX8_raise_6 rfl qp_7_190 rfl rfl rfl rfl rfl (Nat.le_of_ble_eq_true rfl) (c_unbuiltBits_0 hT h) (Nat.le_of_ble_eq_true rfl) ?_
      show Ex qm_lay _ mX8_raise 9 [some (.ref 54), some (.int (nI s)), none] [.int (nI (tn_nb T)), .int (nI s), .ref 54] σ _ _
      refine ex_callV (a := 54) (rest := []) dX8_raise_9 rfl qp_7_193 rfl rfl rfl rfl rfl (Nat.le_of_ble_eq_true rfl) (hOo) (Nat.le_of_ble_eq_true rfl) ?_
      show Ex qm_lay _ mX8_raise 12 [some (.ref 54), some (.int (nI s)), none] [.int (gs_ro S (nI s) (tn_nb T))] σo _ _
      refine ex_istore_n (ls' := [some (.ref 54), some (.int (nI s)), some (.int (gs_ro S (nI s) (tn_nb T)))]) dX8_raise_12 rfl (Nat.le_of_ble_eq_true rfl) rfl rfl ?_
      refine ex_iload_n dX8_raise_13 rfl rfl ?_
      refine ex_if_eq (q := 19) (q2 := 17) dX8_raise_14 rfl rfl (fun _ => ?_) (fun hh => absurd (c1) hh)
      refine ex_aload_n dX8_raise_19 rfl rfl ?_
      refine ex_getR (b := 22) dX8_raise_20 rfl qp_7_10 rfl rfl ?_
      refine ex_aload_n dX8_raise_23 rfl rfl ?_
      refine ex_getR (b := 48) dX8_raise_24 rfl qp_7_43 rfl rfl ?_
      refine ex_aload_n dX8_raise_27 rfl rfl ?_
      refine ex_getR (b := 48) dX8_raise_28 rfl qp_7_43 rfl rfl ?_
      refine ex_getI (s := 21) (x := nI os.length) dX8_raise_31 rfl qp_7_196 rfl rfl (hord.1) ?_
      refine ex_callV (a := 22) (rest := []) dX8_raise_34 rfl qp_7_197 rfl rfl rfl rfl rfl (Nat.le_of_ble_eq_true rfl) (hO) (Nat.le_of_ble_eq_true rfl) ?_
      show Ex qm_lay _ mX8_raise 37 [some (.ref 54), some (.int (nI s)), some (.int (gs_ro S (nI s) (tn_nb T)))] [] σ' _ _
      refine ex_aload_n dX8_raise_37 rfl rfl ?_
      refine ex_getR (b := 22) dX8_raise_38 rfl qp_7_10 rfl rfl ?_
      refine ex_callV (a := 22) (rest := []) dX8_raise_41 rfl qp_7_68 rfl rfl rfl rfl rfl (Nat.le_of_ble_eq_true rfl) (c_howMany_0 hok2 hR) (Nat.le_of_ble_eq_true rfl) ?_
      show Ex qm_lay _ mX8_raise 44 [some (.ref 54), some (.int (nI s)), some (.int (gs_ro S (nI s) (tn_nb T)))] [.int (nI (tn_pc (tn_cb (tn_bl T (os.take os.length)))))] σ' _ _
      exact ex_iret dX8_raise_44 rfl (by rw [List.take_length]) rfl
    · have h : MR σ T := hM.1
      obtain ⟨σo, hOo, hord, hso1⟩ := k_readsRow hG hM (nI s) hnb.1
      have hord := hord s os rfl hs4 hso hne
      have hMo := MG.aux hM (hso1.wid (by omega) (by omega))
      have ho : MR σo T := hMo.1
      have hok2 := tn_bl_ok (os.take os.length) hT (os_take_ok hos)
      obtain ⟨σ', hO, hR, hs⟩ := k_buildsRow hT ho hord hos (n := os.length) (Nat.le_refl _)
      refine ⟨σ', ?_, (by have z := hR; rw [List.take_length] at z; exact MG.town hMo z (hs.wid (by omega) (by omega))), (hso1.wid (by omega) (by omega)).tr (hs.wid (by omega) (by omega))⟩
      refine Ok.of (ls := [some (.ref 55), some (.int (nI s)), none]) (Nat.le_of_ble_eq_true rfl) rfl ?_
      refine ex_aload_n dX9_raise_0 rfl rfl ?_
      refine ex_iload_n dX9_raise_1 rfl rfl ?_
      refine ex_aload_n dX9_raise_2 rfl rfl ?_
      refine ex_callV (a := 55) (rest := [.int (nI s), .ref 55]) dX9_raise_3 rfl qp_8_244 rfl rfl rfl rfl rfl (Nat.le_of_ble_eq_true rfl) (k_notBuilt hT h) (Nat.le_of_ble_eq_true rfl) ?_
      show Ex qm_lay _ mX9_raise 6 [some (.ref 55), some (.int (nI s)), none] [.int (nI (tn_nb T)), .int (nI s), .ref 55] σ _ _
      refine ex_callV (a := 55) (rest := []) dX9_raise_6 rfl qp_8_262 rfl rfl rfl rfl rfl (Nat.le_of_ble_eq_true rfl) (hOo) (Nat.le_of_ble_eq_true rfl) ?_
      show Ex qm_lay _ mX9_raise 9 [some (.ref 55), some (.int (nI s)), none] [.int (gs_ro S (nI s) (tn_nb T))] σo _ _
      refine ex_istore_n (ls' := [some (.ref 55), some (.int (nI s)), some (.int (gs_ro S (nI s) (tn_nb T)))]) dX9_raise_9 rfl (Nat.le_of_ble_eq_true rfl) rfl rfl ?_
      refine ex_iload_n dX9_raise_10 rfl rfl ?_
      refine ex_if_eq (q := 16) (q2 := 14) dX9_raise_11 rfl rfl (fun _ => ?_) (fun hh => absurd (c1) hh)
      refine ex_aload_n dX9_raise_16 rfl rfl ?_
      refine ex_aload_n dX9_raise_17 rfl rfl ?_
      refine ex_getI (s := 44) (x := nI os.length) dX9_raise_18 rfl qp_8_235 rfl rfl (hord.1) ?_
      refine ex_callV (a := 55) (rest := []) dX9_raise_21 rfl qp_8_241 rfl rfl rfl rfl rfl (Nat.le_of_ble_eq_true rfl) (hO) (Nat.le_of_ble_eq_true rfl) ?_
      show Ex qm_lay _ mX9_raise 24 [some (.ref 55), some (.int (nI s)), some (.int (gs_ro S (nI s) (tn_nb T)))] [] σ' _ _
      refine ex_aload_n dX9_raise_24 rfl rfl ?_
      refine ex_callV (a := 55) (rest := []) dX9_raise_25 rfl qp_8_99 rfl rfl rfl rfl rfl (Nat.le_of_ble_eq_true rfl) (k_howMany hok2 hR) (Nat.le_of_ble_eq_true rfl) ?_
      show Ex qm_lay _ mX9_raise 28 [some (.ref 55), some (.int (nI s)), some (.int (gs_ro S (nI s) (tn_nb T)))] [.int (nI (tn_pc (tn_cb (tn_bl T (os.take os.length)))))] σ' _ _
      exact ex_iret dX9_raise_28 rfl (by rw [List.take_length]) rfl
  · refine J.u (.int (gs_ro S s (tn_nb T))) (T, X, P, Im, S) hG (fun σ hC => ?_) (fun σ hM => ?_)
    · have h : TR σ 9 18 T := hC.1
      obtain ⟨σo, hOo, hord, hso1⟩ := c_refusalOfOrder hG hC s hnb7
      refine ⟨σo, ?_, CG.aux hG hC (hso1.wid (by omega) (by omega)), hso1.wid (by omega) (by omega)⟩
      refine Ok.of (ls := [some (.ref 54), some (.int s), none]) (Nat.le_of_ble_eq_true rfl) rfl ?_
      refine ex_aload_n dX8_raise_0 rfl rfl ?_
      refine ex_iload_n dX8_raise_1 rfl rfl ?_
      refine ex_aload_n dX8_raise_2 rfl rfl ?_
      refine ex_getR (b := 22) dX8_raise_3 rfl qp_7_10 rfl rfl ?_
      refine ex_callV (a := 22) (rest := [.int s, .ref 54]) dX8_raise_6 rfl qp_7_190 rfl rfl rfl rfl rfl (Nat.le_of_ble_eq_true rfl) (c_unbuiltBits_0 hT h) (Nat.le_of_ble_eq_true rfl) ?_
      show Ex qm_lay _ mX8_raise 9 [some (.ref 54), some (.int s), none] [.int (nI (tn_nb T)), .int s, .ref 54] σ _ _
      refine ex_callV (a := 54) (rest := []) dX8_raise_9 rfl qp_7_193 rfl rfl rfl rfl rfl (Nat.le_of_ble_eq_true rfl) (hOo) (Nat.le_of_ble_eq_true rfl) ?_
      show Ex qm_lay _ mX8_raise 12 [some (.ref 54), some (.int s), none] [.int (gs_ro S s (tn_nb T))] σo _ _
      refine ex_istore_n (ls' := [some (.ref 54), some (.int s), some (.int (gs_ro S s (tn_nb T)))]) dX8_raise_12 rfl (Nat.le_of_ble_eq_true rfl) rfl rfl ?_
      refine ex_iload_n dX8_raise_13 rfl rfl ?_
      refine ex_if_eq (q := 19) (q2 := 17) dX8_raise_14 rfl rfl (fun hh => absurd hh (c1)) (fun _ => ?_)
      refine ex_iload_n dX8_raise_17 rfl rfl ?_
      exact ex_iret dX8_raise_18 rfl rfl rfl
    · have h : MR σ T := hM.1
      obtain ⟨σo, hOo, hord, hso1⟩ := k_readsRow hG hM s hnb.1
      refine ⟨σo, ?_, MG.aux hM (hso1.wid (by omega) (by omega)), hso1.wid (by omega) (by omega)⟩
      refine Ok.of (ls := [some (.ref 55), some (.int s), none]) (Nat.le_of_ble_eq_true rfl) rfl ?_
      refine ex_aload_n dX9_raise_0 rfl rfl ?_
      refine ex_iload_n dX9_raise_1 rfl rfl ?_
      refine ex_aload_n dX9_raise_2 rfl rfl ?_
      refine ex_callV (a := 55) (rest := [.int s, .ref 55]) dX9_raise_3 rfl qp_8_244 rfl rfl rfl rfl rfl (Nat.le_of_ble_eq_true rfl) (k_notBuilt hT h) (Nat.le_of_ble_eq_true rfl) ?_
      show Ex qm_lay _ mX9_raise 6 [some (.ref 55), some (.int s), none] [.int (nI (tn_nb T)), .int s, .ref 55] σ _ _
      refine ex_callV (a := 55) (rest := []) dX9_raise_6 rfl qp_8_262 rfl rfl rfl rfl rfl (Nat.le_of_ble_eq_true rfl) (hOo) (Nat.le_of_ble_eq_true rfl) ?_
      show Ex qm_lay _ mX9_raise 9 [some (.ref 55), some (.int s), none] [.int (gs_ro S s (tn_nb T))] σo _ _
      refine ex_istore_n (ls' := [some (.ref 55), some (.int s), some (.int (gs_ro S s (tn_nb T)))]) dX9_raise_9 rfl (Nat.le_of_ble_eq_true rfl) rfl rfl ?_
      refine ex_iload_n dX9_raise_10 rfl rfl ?_
      refine ex_if_eq (q := 16) (q2 := 14) dX9_raise_11 rfl rfl (fun hh => absurd hh (c1)) (fun _ => ?_)
      refine ex_iload_n dX9_raise_14 rfl rfl ?_
      exact ex_iret dX9_raise_15 rfl rfl rfl

set_option maxHeartbeats 2000000 in
theorem j_paints {T : tn_T} {X : gx_T} {P : gt_T} {Im : gi_T} {S : gs_T} (hG : gg_ok (T, X, P, Im, S)) (s w : Int32) : J mX8_paints mX9_paints [.int s, .int w] (T, X, P, Im, S) := by
  have hT : tn_ok T := hG.1
  have hX : gx_ok X := hG.2.1
  have hP : gt_ok P := hG.2.2.1
  have hI : gi_ok T (gx_n X) Im := hG.2.2.2.1
  have hS : gs_ok S := hG.2.2.2.2.1
  have hw : tn_w T < gx_n X := hG.2.2.2.2.2
  have hL := hT.1
  have hw6 := hT.2.1
  have hu := tn_u_lt hT
  have hX6 := hX.2.1
  have hP6 := hP.1
  have hnb := tn_nb_bits hT
  have h128 : 2 ^ tn_L T ≤ 128 := Nat.pow_le_pow_right (n := 2) (by omega) hL
  have hnb7 : tn_nb T < 128 := by omega
  by_cases c1 : gs_ro S s (tn_nb T) = 0
  · obtain ⟨s, os, hs4, rfl, hso⟩ := gs_ro_0 c1
    have hso2 := so_of hnb7 hso
    have hos : ∀ l ∈ os, l < tn_L T := fun l hl => by
      obtain ⟨g1, g2⟩ := hso2.2.2.1 l hl
      exact bit_lt hnb.1 g2
    have ho7 : os.length ≤ 7 := by rw [hso2.1]; exact tn_pc_7 _ hnb7
    have hne : ¬ S.1 s = -1 := fun z => by rw [gs_ro_t hs4, if_pos z] at c1; exact absurd c1 (by decide)
    by_cases c2 : tn_in w 0 (nI (tn_L T)) = true
    · obtain ⟨q, hq, rfl⟩ := tn_in_of (n := tn_L T) (by omega) c2
      have hok2 := tn_bl_ok (os.take os.length) hT (os_take_ok hos)
      have hokL : tn_L (tn_bl T (os.take os.length)) = tn_L T := (tn_bl_same _ T).1
      by_cases c3 : q = 0
      · subst c3
        refine J.u (.int (nI (tn_pc (tn_cb (tn_bl T (os.take os.length)))))) (T, X, P, Im, S) hG (fun σ hC => ?_) (fun σ hM => ?_)
        · have h : TR σ 9 18 T := hC.1
          obtain ⟨σo, hOo, hord, hso1⟩ := c_refusalOfOrder hG hC (nI s) hnb7
          have hord := hord s os rfl hs4 hso hne
          have hCo := CG.aux hG hC (hso1.wid (by omega) (by omega))
          have ho : TR σo 9 18 T := hCo.1
          obtain ⟨σ1, hO1, hR1, hs1⟩ := c_becomes_10 hT ho
          obtain ⟨σ', hO, hR, hs⟩ := c_buildFirst_1 hT hR1 (hord.sm hs1 (by omega) (by omega)) hos (n := os.length) (Nat.le_refl _)
          have hth : sm σo σ' 13 17 23 28 := hs1.tr hs
          refine ⟨σ', ?_, CG.think hG hCo hth, (hso1.wid (by omega) (by omega)).tr (hth.wid (by omega) (by omega))⟩
          refine Ok.of (ls := [some (.ref 54), some (.int (nI s)), some (.int 0), none]) (Nat.le_of_ble_eq_true rfl) rfl ?_
          refine ex_aload_n dX8_paints_0 rfl rfl ?_
          refine ex_iload_n dX8_paints_1 rfl rfl ?_
          refine ex_aload_n dX8_paints_2 rfl rfl ?_
          refine ex_getR (b := 22) dX8_paints_3 rfl qp_7_10 rfl rfl ?_
          refine ex_callV (a := 22) (rest := [.int (nI s), .ref 54]) dX8_paints_6 rfl qp_7_190 rfl rfl rfl rfl rfl (Nat.le_of_ble_eq_true rfl) (c_unbuiltBits_0 hT h) (Nat.le_of_ble_eq_true rfl) ?_
          show Ex qm_lay _ mX8_paints 9 [some (.ref 54), some (.int (nI s)), some (.int 0), none] [.int (nI (tn_nb T)), .int (nI s), .ref 54] σ _ _
          refine ex_callV (a := 54) (rest := []) dX8_paints_9 rfl qp_7_193 rfl rfl rfl rfl rfl (Nat.le_of_ble_eq_true rfl) (hOo) (Nat.le_of_ble_eq_true rfl) ?_
          show Ex qm_lay _ mX8_paints 12 [some (.ref 54), some (.int (nI s)), some (.int 0), none] [.int (gs_ro S (nI s) (tn_nb T))] σo _ _
          refine ex_istore_n (ls' := [some (.ref 54), some (.int (nI s)), some (.int 0), some (.int (gs_ro S (nI s) (tn_nb T)))]) dX8_paints_12 rfl (Nat.le_of_ble_eq_true rfl) rfl rfl ?_
          refine ex_iload_n dX8_paints_13 rfl rfl ?_
          refine ex_if_eq (q := 19) (q2 := 17) dX8_paints_14 rfl rfl (fun _ => ?_) (fun hh => absurd (c1) hh)
          refine ex_iload_n dX8_paints_19 rfl rfl ?_
          refine ex_if_lt (q := 34) (q2 := 23) dX8_paints_20 rfl rfl (fun hh => absurd hh (by decide)) (fun _ => ?_)
          refine ex_iload_n dX8_paints_23 rfl rfl ?_
          refine ex_aload_n dX8_paints_24 rfl rfl ?_
          refine ex_getR (b := 22) dX8_paints_25 rfl qp_7_10 rfl rfl ?_
          refine ex_getI (s := 9) (x := nI (tn_L T)) dX8_paints_28 rfl qp_7_61 rfl rfl (ho.1) ?_
          refine ex_icmp_le (q := 37) (q2 := 34) dX8_paints_31 rfl rfl (fun _ => ?_) (fun hh => absurd (nI_le (a := 0) (b := (tn_L T)) (by omega) (by omega)) hh)
          refine ex_aload_n dX8_paints_37 rfl rfl ?_
          refine ex_getR (b := 28) dX8_paints_38 rfl qp_7_16 rfl rfl ?_
          refine ex_aload_n dX8_paints_41 rfl rfl ?_
          refine ex_getR (b := 22) dX8_paints_42 rfl qp_7_10 rfl rfl ?_
          refine ex_callV (a := 28) (rest := []) dX8_paints_45 rfl qp_7_172 rfl rfl rfl rfl rfl (Nat.le_of_ble_eq_true rfl) (hO1) (Nat.le_of_ble_eq_true rfl) ?_
          show Ex qm_lay _ mX8_paints 48 [some (.ref 54), some (.int (nI s)), some (.int 0), some (.int (gs_ro S (nI s) (tn_nb T)))] [] σ1 _ _
          refine ex_aload_n dX8_paints_48 rfl rfl ?_
          refine ex_getR (b := 28) dX8_paints_49 rfl qp_7_16 rfl rfl ?_
          refine ex_aload_n dX8_paints_52 rfl rfl ?_
          refine ex_getR (b := 48) dX8_paints_53 rfl qp_7_43 rfl rfl ?_
          refine ex_aload_n dX8_paints_56 rfl rfl ?_
          refine ex_getR (b := 48) dX8_paints_57 rfl qp_7_43 rfl rfl ?_
          refine ex_getI (s := 21) (x := nI os.length) dX8_paints_60 rfl qp_7_196 rfl rfl ((hord.sm hs1 (by omega) (by omega)).1) ?_
          refine ex_callV (a := 28) (rest := []) dX8_paints_63 rfl qp_7_197 rfl rfl rfl rfl rfl (Nat.le_of_ble_eq_true rfl) (hO) (Nat.le_of_ble_eq_true rfl) ?_
          show Ex qm_lay _ mX8_paints 66 [some (.ref 54), some (.int (nI s)), some (.int 0), some (.int (gs_ro S (nI s) (tn_nb T)))] [] σ' _ _
          refine ex_iload_n dX8_paints_66 rfl rfl ?_
          refine ex_if_ne (q := 80) (q2 := 70) dX8_paints_67 rfl rfl (fun hh => absurd hh (by decide)) (fun _ => ?_)
          refine ex_aload_n dX8_paints_70 rfl rfl ?_
          refine ex_getR (b := 28) dX8_paints_71 rfl qp_7_16 rfl rfl ?_
          refine ex_callV (a := 28) (rest := []) dX8_paints_74 rfl qp_7_68 rfl rfl rfl rfl rfl (Nat.le_of_ble_eq_true rfl) (c_howMany_1 hok2 hR) (Nat.le_of_ble_eq_true rfl) ?_
          show Ex qm_lay _ mX8_paints 77 [some (.ref 54), some (.int (nI s)), some (.int 0), some (.int (gs_ro S (nI s) (tn_nb T)))] [.int (nI (tn_pc (tn_cb (tn_bl T (os.take os.length)))))] σ' _ _
          refine ex_goto (q := 90) dX8_paints_77 rfl ?_
          exact ex_iret dX8_paints_90 rfl rfl rfl
        · have h : MR σ T := hM.1
          obtain ⟨σo, hOo, hord, hso1⟩ := k_readsRow hG hM (nI s) hnb.1
          have hord := hord s os rfl hs4 hso hne
          have hMo := MG.aux hM (hso1.wid (by omega) (by omega))
          have ho : MR σo T := hMo.1
          obtain ⟨σ1, hO1, hK1, hs1⟩ := k_keeps hT ho
          obtain ⟨σ2, hO2, hR2, hs2⟩ := k_buildsRow hT (ho.sm hs1 (by omega) (by omega)) (hord.sm hs1 (by omega) (by omega)) hos (n := os.length) (Nat.le_refl _)
          have hok2 := tn_bl_ok (os.take (os.length)) hT (os_take_ok hos)
          obtain ⟨q1, q2, q3, q4, q5⟩ := tn_bl_same (os.take (os.length)) T
          obtain ⟨σ3, hO3, hR3, hs3⟩ := k_laysBack hT (hK1.sm hs2 (by omega) (by omega)) (MS.ext hR2.1 q1.symm q2.symm q5.symm q4.symm)
          have hsl := back_sl2 ho hR3 hs1 hs2 hs3
          refine ⟨σ3, ?_, MG.thinkL (G := (T, X, P, Im, S)) hMo hR3 ⟨fun s hs => hsl.1 s (by omega), fun r hr hr2 k => hsl.2 r (by omega) (by omega) k⟩, (hso1.wid (by omega) (by omega)).tr ⟨fun s hs => hsl.1 s (by omega), fun r hr k => hsl.2 r (by omega) (by omega) k⟩⟩
          refine Ok.of (ls := [some (.ref 55), some (.int (nI s)), some (.int 0), none, none]) (Nat.le_of_ble_eq_true rfl) rfl ?_
          refine ex_aload_n dX9_paints_0 rfl rfl ?_
          refine ex_iload_n dX9_paints_1 rfl rfl ?_
          refine ex_aload_n dX9_paints_2 rfl rfl ?_
          refine ex_callV (a := 55) (rest := [.int (nI s), .ref 55]) dX9_paints_3 rfl qp_8_244 rfl rfl rfl rfl rfl (Nat.le_of_ble_eq_true rfl) (k_notBuilt hT h) (Nat.le_of_ble_eq_true rfl) ?_
          show Ex qm_lay _ mX9_paints 6 [some (.ref 55), some (.int (nI s)), some (.int 0), none, none] [.int (nI (tn_nb T)), .int (nI s), .ref 55] σ _ _
          refine ex_callV (a := 55) (rest := []) dX9_paints_6 rfl qp_8_262 rfl rfl rfl rfl rfl (Nat.le_of_ble_eq_true rfl) (hOo) (Nat.le_of_ble_eq_true rfl) ?_
          show Ex qm_lay _ mX9_paints 9 [some (.ref 55), some (.int (nI s)), some (.int 0), none, none] [.int (gs_ro S (nI s) (tn_nb T))] σo _ _
          refine ex_istore_n (ls' := [some (.ref 55), some (.int (nI s)), some (.int 0), some (.int (gs_ro S (nI s) (tn_nb T))), none]) dX9_paints_9 rfl (Nat.le_of_ble_eq_true rfl) rfl rfl ?_
          refine ex_iload_n dX9_paints_10 rfl rfl ?_
          refine ex_if_eq (q := 16) (q2 := 14) dX9_paints_11 rfl rfl (fun _ => ?_) (fun hh => absurd (c1) hh)
          refine ex_iload_n dX9_paints_16 rfl rfl ?_
          refine ex_iconst (x := 0) dX9_paints_17 rfl rfl ?_
          refine ex_aload_n dX9_paints_18 rfl rfl ?_
          refine ex_getI (s := 27) (x := nI (tn_L T)) dX9_paints_19 rfl qp_8_78 rfl rfl (ho.1.1) ?_
          refine ex_callS (rest := []) dX9_paints_22 rfl qp_8_81 rfl rfl rfl (Nat.le_of_ble_eq_true rfl) (k_in _ _ _ _) (Nat.le_of_ble_eq_true rfl) ?_
          show Ex qm_lay _ mX9_paints 25 [some (.ref 55), some (.int (nI s)), some (.int 0), some (.int (gs_ro S (nI s) (tn_nb T))), none] [.int (b2i (tn_in 0 0 (nI (tn_L T))))] σo _ _
          refine ex_if_ne (q := 31) (q2 := 28) dX9_paints_25 rfl rfl (fun _ => ?_) (fun hh => absurd (b2i_n0.mpr (c2)) hh)
          refine ex_aload_n dX9_paints_31 rfl rfl ?_
          refine ex_callV (a := 55) (rest := []) dX9_paints_32 rfl qp_8_226 rfl rfl rfl rfl rfl (Nat.le_of_ble_eq_true rfl) (hO1) (Nat.le_of_ble_eq_true rfl) ?_
          show Ex qm_lay _ mX9_paints 35 [some (.ref 55), some (.int (nI s)), some (.int 0), some (.int (gs_ro S (nI s) (tn_nb T))), none] [] σ1 _ _
          refine ex_aload_n dX9_paints_35 rfl rfl ?_
          refine ex_aload_n dX9_paints_36 rfl rfl ?_
          refine ex_getI (s := 44) (x := nI os.length) dX9_paints_37 rfl qp_8_235 rfl rfl ((hord.sm hs1 (by omega) (by omega)).1) ?_
          refine ex_callV (a := 55) (rest := []) dX9_paints_40 rfl qp_8_241 rfl rfl rfl rfl rfl (Nat.le_of_ble_eq_true rfl) (hO2) (Nat.le_of_ble_eq_true rfl) ?_
          show Ex qm_lay _ mX9_paints 43 [some (.ref 55), some (.int (nI s)), some (.int 0), some (.int (gs_ro S (nI s) (tn_nb T))), none] [] σ2 _ _
          refine ex_iload_n dX9_paints_43 rfl rfl ?_
          refine ex_if_ne (q := 54) (q2 := 47) dX9_paints_44 rfl rfl (fun hh => absurd hh (by decide)) (fun _ => ?_)
          refine ex_aload_n dX9_paints_47 rfl rfl ?_
          refine ex_callV (a := 55) (rest := []) dX9_paints_48 rfl qp_8_99 rfl rfl rfl rfl rfl (Nat.le_of_ble_eq_true rfl) (k_howMany hok2 hR2) (Nat.le_of_ble_eq_true rfl) ?_
          show Ex qm_lay _ mX9_paints 51 [some (.ref 55), some (.int (nI s)), some (.int 0), some (.int (gs_ro S (nI s) (tn_nb T))), none] [.int (nI (tn_pc (tn_cb (tn_bl T (os.take os.length)))))] σ2 _ _
          refine ex_goto (q := 62) dX9_paints_51 rfl ?_
          refine ex_istore (ls' := [some (.ref 55), some (.int (nI s)), some (.int 0), some (.int (gs_ro S (nI s) (tn_nb T))), some (.int (nI (tn_pc (tn_cb (tn_bl T (os.take os.length))))))]) dX9_paints_62 rfl (Nat.le_of_ble_eq_true rfl) rfl rfl ?_
          refine ex_aload_n dX9_paints_64 rfl rfl ?_
          refine ex_callV (a := 55) (rest := []) dX9_paints_65 rfl qp_8_229 rfl rfl rfl rfl rfl (Nat.le_of_ble_eq_true rfl) (hO3) (Nat.le_of_ble_eq_true rfl) ?_
          show Ex qm_lay _ mX9_paints 68 [some (.ref 55), some (.int (nI s)), some (.int 0), some (.int (gs_ro S (nI s) (tn_nb T))), some (.int (nI (tn_pc (tn_cb (tn_bl T (os.take os.length))))))] [] σ3 _ _
          refine ex_iload dX9_paints_68 rfl rfl ?_
          exact ex_iret dX9_paints_70 rfl rfl rfl
      · obtain ⟨p, rfl⟩ : ∃ p, q = p + 1 := ⟨q - 1, by omega⟩
        refine J.u (.int (tn_cv (tn_bl T (os.take os.length)) p)) (T, X, P, Im, S) hG (fun σ hC => ?_) (fun σ hM => ?_)
        · have h : TR σ 9 18 T := hC.1
          obtain ⟨σo, hOo, hord, hso1⟩ := c_refusalOfOrder hG hC (nI s) hnb7
          have hord := hord s os rfl hs4 hso hne
          have hCo := CG.aux hG hC (hso1.wid (by omega) (by omega))
          have ho : TR σo 9 18 T := hCo.1
          obtain ⟨σ1, hO1, hR1, hs1⟩ := c_becomes_10 hT ho
          obtain ⟨σ', hO, hR, hs⟩ := c_buildFirst_1 hT hR1 (hord.sm hs1 (by omega) (by omega)) hos (n := os.length) (Nat.le_refl _)
          have hth : sm σo σ' 13 17 23 28 := hs1.tr hs
          refine ⟨σ', ?_, CG.think hG hCo hth, (hso1.wid (by omega) (by omega)).tr (hth.wid (by omega) (by omega))⟩
          refine Ok.of (ls := [some (.ref 54), some (.int (nI s)), some (.int (nI (p + 1))), none]) (Nat.le_of_ble_eq_true rfl) rfl ?_
          refine ex_aload_n dX8_paints_0 rfl rfl ?_
          refine ex_iload_n dX8_paints_1 rfl rfl ?_
          refine ex_aload_n dX8_paints_2 rfl rfl ?_
          refine ex_getR (b := 22) dX8_paints_3 rfl qp_7_10 rfl rfl ?_
          refine ex_callV (a := 22) (rest := [.int (nI s), .ref 54]) dX8_paints_6 rfl qp_7_190 rfl rfl rfl rfl rfl (Nat.le_of_ble_eq_true rfl) (c_unbuiltBits_0 hT h) (Nat.le_of_ble_eq_true rfl) ?_
          show Ex qm_lay _ mX8_paints 9 [some (.ref 54), some (.int (nI s)), some (.int (nI (p + 1))), none] [.int (nI (tn_nb T)), .int (nI s), .ref 54] σ _ _
          refine ex_callV (a := 54) (rest := []) dX8_paints_9 rfl qp_7_193 rfl rfl rfl rfl rfl (Nat.le_of_ble_eq_true rfl) (hOo) (Nat.le_of_ble_eq_true rfl) ?_
          show Ex qm_lay _ mX8_paints 12 [some (.ref 54), some (.int (nI s)), some (.int (nI (p + 1))), none] [.int (gs_ro S (nI s) (tn_nb T))] σo _ _
          refine ex_istore_n (ls' := [some (.ref 54), some (.int (nI s)), some (.int (nI (p + 1))), some (.int (gs_ro S (nI s) (tn_nb T)))]) dX8_paints_12 rfl (Nat.le_of_ble_eq_true rfl) rfl rfl ?_
          refine ex_iload_n dX8_paints_13 rfl rfl ?_
          refine ex_if_eq (q := 19) (q2 := 17) dX8_paints_14 rfl rfl (fun _ => ?_) (fun hh => absurd (c1) hh)
          refine ex_iload_n dX8_paints_19 rfl rfl ?_
          refine ex_if_lt (q := 34) (q2 := 23) dX8_paints_20 rfl rfl (fun hh => absurd hh (nI_pos (by omega))) (fun _ => ?_)
          refine ex_iload_n dX8_paints_23 rfl rfl ?_
          refine ex_aload_n dX8_paints_24 rfl rfl ?_
          refine ex_getR (b := 22) dX8_paints_25 rfl qp_7_10 rfl rfl ?_
          refine ex_getI (s := 9) (x := nI (tn_L T)) dX8_paints_28 rfl qp_7_61 rfl rfl (ho.1) ?_
          refine ex_icmp_le (q := 37) (q2 := 34) dX8_paints_31 rfl rfl (fun _ => ?_) (fun hh => absurd (nI_le (a := (p + 1)) (b := (tn_L T)) (by omega) (by omega)) hh)
          refine ex_aload_n dX8_paints_37 rfl rfl ?_
          refine ex_getR (b := 28) dX8_paints_38 rfl qp_7_16 rfl rfl ?_
          refine ex_aload_n dX8_paints_41 rfl rfl ?_
          refine ex_getR (b := 22) dX8_paints_42 rfl qp_7_10 rfl rfl ?_
          refine ex_callV (a := 28) (rest := []) dX8_paints_45 rfl qp_7_172 rfl rfl rfl rfl rfl (Nat.le_of_ble_eq_true rfl) (hO1) (Nat.le_of_ble_eq_true rfl) ?_
          show Ex qm_lay _ mX8_paints 48 [some (.ref 54), some (.int (nI s)), some (.int (nI (p + 1))), some (.int (gs_ro S (nI s) (tn_nb T)))] [] σ1 _ _
          refine ex_aload_n dX8_paints_48 rfl rfl ?_
          refine ex_getR (b := 28) dX8_paints_49 rfl qp_7_16 rfl rfl ?_
          refine ex_aload_n dX8_paints_52 rfl rfl ?_
          refine ex_getR (b := 48) dX8_paints_53 rfl qp_7_43 rfl rfl ?_
          refine ex_aload_n dX8_paints_56 rfl rfl ?_
          refine ex_getR (b := 48) dX8_paints_57 rfl qp_7_43 rfl rfl ?_
          refine ex_getI (s := 21) (x := nI os.length) dX8_paints_60 rfl qp_7_196 rfl rfl ((hord.sm hs1 (by omega) (by omega)).1) ?_
          refine ex_callV (a := 28) (rest := []) dX8_paints_63 rfl qp_7_197 rfl rfl rfl rfl rfl (Nat.le_of_ble_eq_true rfl) (hO) (Nat.le_of_ble_eq_true rfl) ?_
          show Ex qm_lay _ mX8_paints 66 [some (.ref 54), some (.int (nI s)), some (.int (nI (p + 1))), some (.int (gs_ro S (nI s) (tn_nb T)))] [] σ' _ _
          refine ex_iload_n dX8_paints_66 rfl rfl ?_
          refine ex_if_ne (q := 80) (q2 := 70) dX8_paints_67 rfl rfl (fun _ => ?_) (fun hh => absurd (fun zz => absurd ((nI_eq (a := p + 1) (b := 0) (by omega) (by decide)).mp zz) (by omega)) hh)
          refine ex_aload_n dX8_paints_80 rfl rfl ?_
          refine ex_getR (b := 28) dX8_paints_81 rfl qp_7_16 rfl rfl ?_
          refine ex_iload_n dX8_paints_84 rfl rfl ?_
          refine ex_iconst (x := 1) dX8_paints_85 rfl rfl ?_
          refine ex_isub (z := nI p) dX8_paints_86 rfl (nI_pred p) ?_
          refine ex_callV (a := 28) (rest := []) dX8_paints_87 rfl qp_7_123 rfl rfl rfl rfl rfl (Nat.le_of_ble_eq_true rfl) (c_colourOf_1n hok2 hR (by omega)) (Nat.le_of_ble_eq_true rfl) ?_
          show Ex qm_lay _ mX8_paints 90 [some (.ref 54), some (.int (nI s)), some (.int (nI (p + 1))), some (.int (gs_ro S (nI s) (tn_nb T)))] [.int (tn_cv (tn_bl T (os.take os.length)) p)] σ' _ _
          exact ex_iret dX8_paints_90 rfl rfl rfl
        · have h : MR σ T := hM.1
          obtain ⟨σo, hOo, hord, hso1⟩ := k_readsRow hG hM (nI s) hnb.1
          have hord := hord s os rfl hs4 hso hne
          have hMo := MG.aux hM (hso1.wid (by omega) (by omega))
          have ho : MR σo T := hMo.1
          obtain ⟨σ1, hO1, hK1, hs1⟩ := k_keeps hT ho
          obtain ⟨σ2, hO2, hR2, hs2⟩ := k_buildsRow hT (ho.sm hs1 (by omega) (by omega)) (hord.sm hs1 (by omega) (by omega)) hos (n := os.length) (Nat.le_refl _)
          have hok2 := tn_bl_ok (os.take (os.length)) hT (os_take_ok hos)
          obtain ⟨q1, q2, q3, q4, q5⟩ := tn_bl_same (os.take (os.length)) T
          obtain ⟨σ3, hO3, hR3, hs3⟩ := k_laysBack hT (hK1.sm hs2 (by omega) (by omega)) (MS.ext hR2.1 q1.symm q2.symm q5.symm q4.symm)
          have hsl := back_sl2 ho hR3 hs1 hs2 hs3
          refine ⟨σ3, ?_, MG.thinkL (G := (T, X, P, Im, S)) hMo hR3 ⟨fun s hs => hsl.1 s (by omega), fun r hr hr2 k => hsl.2 r (by omega) (by omega) k⟩, (hso1.wid (by omega) (by omega)).tr ⟨fun s hs => hsl.1 s (by omega), fun r hr k => hsl.2 r (by omega) (by omega) k⟩⟩
          refine Ok.of (ls := [some (.ref 55), some (.int (nI s)), some (.int (nI (p + 1))), none, none]) (Nat.le_of_ble_eq_true rfl) rfl ?_
          refine ex_aload_n dX9_paints_0 rfl rfl ?_
          refine ex_iload_n dX9_paints_1 rfl rfl ?_
          refine ex_aload_n dX9_paints_2 rfl rfl ?_
          refine ex_callV (a := 55) (rest := [.int (nI s), .ref 55]) dX9_paints_3 rfl qp_8_244 rfl rfl rfl rfl rfl (Nat.le_of_ble_eq_true rfl) (k_notBuilt hT h) (Nat.le_of_ble_eq_true rfl) ?_
          show Ex qm_lay _ mX9_paints 6 [some (.ref 55), some (.int (nI s)), some (.int (nI (p + 1))), none, none] [.int (nI (tn_nb T)), .int (nI s), .ref 55] σ _ _
          refine ex_callV (a := 55) (rest := []) dX9_paints_6 rfl qp_8_262 rfl rfl rfl rfl rfl (Nat.le_of_ble_eq_true rfl) (hOo) (Nat.le_of_ble_eq_true rfl) ?_
          show Ex qm_lay _ mX9_paints 9 [some (.ref 55), some (.int (nI s)), some (.int (nI (p + 1))), none, none] [.int (gs_ro S (nI s) (tn_nb T))] σo _ _
          refine ex_istore_n (ls' := [some (.ref 55), some (.int (nI s)), some (.int (nI (p + 1))), some (.int (gs_ro S (nI s) (tn_nb T))), none]) dX9_paints_9 rfl (Nat.le_of_ble_eq_true rfl) rfl rfl ?_
          refine ex_iload_n dX9_paints_10 rfl rfl ?_
          refine ex_if_eq (q := 16) (q2 := 14) dX9_paints_11 rfl rfl (fun _ => ?_) (fun hh => absurd (c1) hh)
          refine ex_iload_n dX9_paints_16 rfl rfl ?_
          refine ex_iconst (x := 0) dX9_paints_17 rfl rfl ?_
          refine ex_aload_n dX9_paints_18 rfl rfl ?_
          refine ex_getI (s := 27) (x := nI (tn_L T)) dX9_paints_19 rfl qp_8_78 rfl rfl (ho.1.1) ?_
          refine ex_callS (rest := []) dX9_paints_22 rfl qp_8_81 rfl rfl rfl (Nat.le_of_ble_eq_true rfl) (k_in _ _ _ _) (Nat.le_of_ble_eq_true rfl) ?_
          show Ex qm_lay _ mX9_paints 25 [some (.ref 55), some (.int (nI s)), some (.int (nI (p + 1))), some (.int (gs_ro S (nI s) (tn_nb T))), none] [.int (b2i (tn_in (nI (p + 1)) 0 (nI (tn_L T))))] σo _ _
          refine ex_if_ne (q := 31) (q2 := 28) dX9_paints_25 rfl rfl (fun _ => ?_) (fun hh => absurd (b2i_n0.mpr (c2)) hh)
          refine ex_aload_n dX9_paints_31 rfl rfl ?_
          refine ex_callV (a := 55) (rest := []) dX9_paints_32 rfl qp_8_226 rfl rfl rfl rfl rfl (Nat.le_of_ble_eq_true rfl) (hO1) (Nat.le_of_ble_eq_true rfl) ?_
          show Ex qm_lay _ mX9_paints 35 [some (.ref 55), some (.int (nI s)), some (.int (nI (p + 1))), some (.int (gs_ro S (nI s) (tn_nb T))), none] [] σ1 _ _
          refine ex_aload_n dX9_paints_35 rfl rfl ?_
          refine ex_aload_n dX9_paints_36 rfl rfl ?_
          refine ex_getI (s := 44) (x := nI os.length) dX9_paints_37 rfl qp_8_235 rfl rfl ((hord.sm hs1 (by omega) (by omega)).1) ?_
          refine ex_callV (a := 55) (rest := []) dX9_paints_40 rfl qp_8_241 rfl rfl rfl rfl rfl (Nat.le_of_ble_eq_true rfl) (hO2) (Nat.le_of_ble_eq_true rfl) ?_
          show Ex qm_lay _ mX9_paints 43 [some (.ref 55), some (.int (nI s)), some (.int (nI (p + 1))), some (.int (gs_ro S (nI s) (tn_nb T))), none] [] σ2 _ _
          refine ex_iload_n dX9_paints_43 rfl rfl ?_
          refine ex_if_ne (q := 54) (q2 := 47) dX9_paints_44 rfl rfl (fun _ => ?_) (fun hh => absurd (fun zz => absurd ((nI_eq (a := p + 1) (b := 0) (by omega) (by decide)).mp zz) (by omega)) hh)
          refine ex_aload_n dX9_paints_54 rfl rfl ?_
          refine ex_getR (b := 59) dX9_paints_55 rfl qp_8_19 rfl rfl ?_
          refine ex_iload_n dX9_paints_58 rfl rfl ?_
          refine ex_iconst (x := 1) dX9_paints_59 rfl rfl ?_
          refine ex_isub (z := nI p) dX9_paints_60 rfl (nI_pred p) ?_
          refine ex_iaload (k := p) (x := tn_cv (tn_bl T (os.take os.length)) p) dX9_paints_61 rfl rfl (rfl) (by omega) (by decide) ((MR.cc hR2 (by omega))) ?_
          refine ex_istore (ls' := [some (.ref 55), some (.int (nI s)), some (.int (nI (p + 1))), some (.int (gs_ro S (nI s) (tn_nb T))), some (.int (tn_cv (tn_bl T (os.take os.length)) p))]) dX9_paints_62 rfl (Nat.le_of_ble_eq_true rfl) rfl rfl ?_
          refine ex_aload_n dX9_paints_64 rfl rfl ?_
          refine ex_callV (a := 55) (rest := []) dX9_paints_65 rfl qp_8_229 rfl rfl rfl rfl rfl (Nat.le_of_ble_eq_true rfl) (hO3) (Nat.le_of_ble_eq_true rfl) ?_
          show Ex qm_lay _ mX9_paints 68 [some (.ref 55), some (.int (nI s)), some (.int (nI (p + 1))), some (.int (gs_ro S (nI s) (tn_nb T))), some (.int (tn_cv (tn_bl T (os.take os.length)) p))] [] σ3 _ _
          refine ex_iload dX9_paints_68 rfl rfl ?_
          exact ex_iret dX9_paints_70 rfl rfl rfl
    · refine J.u (.int (-7)) (T, X, P, Im, S) hG (fun σ hC => ?_) (fun σ hM => ?_)
      · have h : TR σ 9 18 T := hC.1
        obtain ⟨σo, hOo, hord, hso1⟩ := c_refusalOfOrder hG hC (nI s) hnb7
        have hord := hord s os rfl hs4 hso hne
        have hCo := CG.aux hG hC (hso1.wid (by omega) (by omega))
        have ho : TR σo 9 18 T := hCo.1
        refine ⟨σo, ?_, hCo, hso1.wid (by omega) (by omega)⟩
        refine Ok.of (ls := [some (.ref 54), some (.int (nI s)), some (.int w), none]) (Nat.le_of_ble_eq_true rfl) rfl ?_
        refine ex_aload_n dX8_paints_0 rfl rfl ?_
        refine ex_iload_n dX8_paints_1 rfl rfl ?_
        refine ex_aload_n dX8_paints_2 rfl rfl ?_
        refine ex_getR (b := 22) dX8_paints_3 rfl qp_7_10 rfl rfl ?_
        refine ex_callV (a := 22) (rest := [.int (nI s), .ref 54]) dX8_paints_6 rfl qp_7_190 rfl rfl rfl rfl rfl (Nat.le_of_ble_eq_true rfl) (c_unbuiltBits_0 hT h) (Nat.le_of_ble_eq_true rfl) ?_
        show Ex qm_lay _ mX8_paints 9 [some (.ref 54), some (.int (nI s)), some (.int w), none] [.int (nI (tn_nb T)), .int (nI s), .ref 54] σ _ _
        refine ex_callV (a := 54) (rest := []) dX8_paints_9 rfl qp_7_193 rfl rfl rfl rfl rfl (Nat.le_of_ble_eq_true rfl) (hOo) (Nat.le_of_ble_eq_true rfl) ?_
        show Ex qm_lay _ mX8_paints 12 [some (.ref 54), some (.int (nI s)), some (.int w), none] [.int (gs_ro S (nI s) (tn_nb T))] σo _ _
        refine ex_istore_n (ls' := [some (.ref 54), some (.int (nI s)), some (.int w), some (.int (gs_ro S (nI s) (tn_nb T)))]) dX8_paints_12 rfl (Nat.le_of_ble_eq_true rfl) rfl rfl ?_
        refine ex_iload_n dX8_paints_13 rfl rfl ?_
        refine ex_if_eq (q := 19) (q2 := 17) dX8_paints_14 rfl rfl (fun _ => ?_) (fun hh => absurd (c1) hh)
        refine ex_iload_n dX8_paints_19 rfl rfl ?_
        refine ex_if_lt (q := 34) (q2 := 23) dX8_paints_20 rfl rfl (fun h20 => ?_) (fun h20 => ?_)
        · refine ex_bipush (x := (-7)) dX8_paints_34 rfl rfl ?_
          exact ex_iret dX8_paints_36 rfl rfl rfl
        · refine ex_iload_n dX8_paints_23 rfl rfl ?_
          refine ex_aload_n dX8_paints_24 rfl rfl ?_
          refine ex_getR (b := 22) dX8_paints_25 rfl qp_7_10 rfl rfl ?_
          refine ex_getI (s := 9) (x := nI (tn_L T)) dX8_paints_28 rfl qp_7_61 rfl rfl (ho.1) ?_
          refine ex_icmp_le (q := 37) (q2 := 34) dX8_paints_31 rfl rfl (fun h31 => ?_) (fun h31 => ?_)
          · exact absurd (decide_eq_true ⟨Int32.not_lt.mp h20, h31⟩) c2
          · refine ex_bipush (x := (-7)) dX8_paints_34 rfl rfl ?_
            exact ex_iret dX8_paints_36 rfl rfl rfl
      · have h : MR σ T := hM.1
        obtain ⟨σo, hOo, hord, hso1⟩ := k_readsRow hG hM (nI s) hnb.1
        have hord := hord s os rfl hs4 hso hne
        have hMo := MG.aux hM (hso1.wid (by omega) (by omega))
        have ho : MR σo T := hMo.1
        refine ⟨σo, ?_, hMo, hso1.wid (by omega) (by omega)⟩
        refine Ok.of (ls := [some (.ref 55), some (.int (nI s)), some (.int w), none, none]) (Nat.le_of_ble_eq_true rfl) rfl ?_
        refine ex_aload_n dX9_paints_0 rfl rfl ?_
        refine ex_iload_n dX9_paints_1 rfl rfl ?_
        refine ex_aload_n dX9_paints_2 rfl rfl ?_
        refine ex_callV (a := 55) (rest := [.int (nI s), .ref 55]) dX9_paints_3 rfl qp_8_244 rfl rfl rfl rfl rfl (Nat.le_of_ble_eq_true rfl) (k_notBuilt hT h) (Nat.le_of_ble_eq_true rfl) ?_
        show Ex qm_lay _ mX9_paints 6 [some (.ref 55), some (.int (nI s)), some (.int w), none, none] [.int (nI (tn_nb T)), .int (nI s), .ref 55] σ _ _
        refine ex_callV (a := 55) (rest := []) dX9_paints_6 rfl qp_8_262 rfl rfl rfl rfl rfl (Nat.le_of_ble_eq_true rfl) (hOo) (Nat.le_of_ble_eq_true rfl) ?_
        show Ex qm_lay _ mX9_paints 9 [some (.ref 55), some (.int (nI s)), some (.int w), none, none] [.int (gs_ro S (nI s) (tn_nb T))] σo _ _
        refine ex_istore_n (ls' := [some (.ref 55), some (.int (nI s)), some (.int w), some (.int (gs_ro S (nI s) (tn_nb T))), none]) dX9_paints_9 rfl (Nat.le_of_ble_eq_true rfl) rfl rfl ?_
        refine ex_iload_n dX9_paints_10 rfl rfl ?_
        refine ex_if_eq (q := 16) (q2 := 14) dX9_paints_11 rfl rfl (fun _ => ?_) (fun hh => absurd (c1) hh)
        refine ex_iload_n dX9_paints_16 rfl rfl ?_
        refine ex_iconst (x := 0) dX9_paints_17 rfl rfl ?_
        refine ex_aload_n dX9_paints_18 rfl rfl ?_
        refine ex_getI (s := 27) (x := nI (tn_L T)) dX9_paints_19 rfl qp_8_78 rfl rfl (ho.1.1) ?_
        refine ex_callS (rest := []) dX9_paints_22 rfl qp_8_81 rfl rfl rfl (Nat.le_of_ble_eq_true rfl) (k_in _ _ _ _) (Nat.le_of_ble_eq_true rfl) ?_
        show Ex qm_lay _ mX9_paints 25 [some (.ref 55), some (.int (nI s)), some (.int w), some (.int (gs_ro S (nI s) (tn_nb T))), none] [.int (b2i (tn_in w 0 (nI (tn_L T))))] σo _ _
        refine ex_if_ne (q := 31) (q2 := 28) dX9_paints_25 rfl rfl (fun hh => absurd hh (fun zz => zz (b2i_0.mpr (by simpa using c2)))) (fun _ => ?_)
        refine ex_bipush (x := (-7)) dX9_paints_28 rfl rfl ?_
        exact ex_iret dX9_paints_30 rfl rfl rfl
  · refine J.u (.int (gs_ro S s (tn_nb T))) (T, X, P, Im, S) hG (fun σ hC => ?_) (fun σ hM => ?_)
    · have h : TR σ 9 18 T := hC.1
      obtain ⟨σo, hOo, hord, hso1⟩ := c_refusalOfOrder hG hC s hnb7
      refine ⟨σo, ?_, CG.aux hG hC (hso1.wid (by omega) (by omega)), hso1.wid (by omega) (by omega)⟩
      refine Ok.of (ls := [some (.ref 54), some (.int s), some (.int w), none]) (Nat.le_of_ble_eq_true rfl) rfl ?_
      refine ex_aload_n dX8_paints_0 rfl rfl ?_
      refine ex_iload_n dX8_paints_1 rfl rfl ?_
      refine ex_aload_n dX8_paints_2 rfl rfl ?_
      refine ex_getR (b := 22) dX8_paints_3 rfl qp_7_10 rfl rfl ?_
      refine ex_callV (a := 22) (rest := [.int s, .ref 54]) dX8_paints_6 rfl qp_7_190 rfl rfl rfl rfl rfl (Nat.le_of_ble_eq_true rfl) (c_unbuiltBits_0 hT h) (Nat.le_of_ble_eq_true rfl) ?_
      show Ex qm_lay _ mX8_paints 9 [some (.ref 54), some (.int s), some (.int w), none] [.int (nI (tn_nb T)), .int s, .ref 54] σ _ _
      refine ex_callV (a := 54) (rest := []) dX8_paints_9 rfl qp_7_193 rfl rfl rfl rfl rfl (Nat.le_of_ble_eq_true rfl) (hOo) (Nat.le_of_ble_eq_true rfl) ?_
      show Ex qm_lay _ mX8_paints 12 [some (.ref 54), some (.int s), some (.int w), none] [.int (gs_ro S s (tn_nb T))] σo _ _
      refine ex_istore_n (ls' := [some (.ref 54), some (.int s), some (.int w), some (.int (gs_ro S s (tn_nb T)))]) dX8_paints_12 rfl (Nat.le_of_ble_eq_true rfl) rfl rfl ?_
      refine ex_iload_n dX8_paints_13 rfl rfl ?_
      refine ex_if_eq (q := 19) (q2 := 17) dX8_paints_14 rfl rfl (fun hh => absurd hh (c1)) (fun _ => ?_)
      refine ex_iload_n dX8_paints_17 rfl rfl ?_
      exact ex_iret dX8_paints_18 rfl rfl rfl
    · have h : MR σ T := hM.1
      obtain ⟨σo, hOo, hord, hso1⟩ := k_readsRow hG hM s hnb.1
      refine ⟨σo, ?_, MG.aux hM (hso1.wid (by omega) (by omega)), hso1.wid (by omega) (by omega)⟩
      refine Ok.of (ls := [some (.ref 55), some (.int s), some (.int w), none, none]) (Nat.le_of_ble_eq_true rfl) rfl ?_
      refine ex_aload_n dX9_paints_0 rfl rfl ?_
      refine ex_iload_n dX9_paints_1 rfl rfl ?_
      refine ex_aload_n dX9_paints_2 rfl rfl ?_
      refine ex_callV (a := 55) (rest := [.int s, .ref 55]) dX9_paints_3 rfl qp_8_244 rfl rfl rfl rfl rfl (Nat.le_of_ble_eq_true rfl) (k_notBuilt hT h) (Nat.le_of_ble_eq_true rfl) ?_
      show Ex qm_lay _ mX9_paints 6 [some (.ref 55), some (.int s), some (.int w), none, none] [.int (nI (tn_nb T)), .int s, .ref 55] σ _ _
      refine ex_callV (a := 55) (rest := []) dX9_paints_6 rfl qp_8_262 rfl rfl rfl rfl rfl (Nat.le_of_ble_eq_true rfl) (hOo) (Nat.le_of_ble_eq_true rfl) ?_
      show Ex qm_lay _ mX9_paints 9 [some (.ref 55), some (.int s), some (.int w), none, none] [.int (gs_ro S s (tn_nb T))] σo _ _
      refine ex_istore_n (ls' := [some (.ref 55), some (.int s), some (.int w), some (.int (gs_ro S s (tn_nb T))), none]) dX9_paints_9 rfl (Nat.le_of_ble_eq_true rfl) rfl rfl ?_
      refine ex_iload_n dX9_paints_10 rfl rfl ?_
      refine ex_if_eq (q := 16) (q2 := 14) dX9_paints_11 rfl rfl (fun hh => absurd hh (c1)) (fun _ => ?_)
      refine ex_iload_n dX9_paints_14 rfl rfl ?_
      exact ex_iret dX9_paints_15 rfl rfl rfl

