/-! ===== orders by lot ===== -/
theorem lN_n0 {n : Nat} (h0 : 0 < n) (h : n < 2 ^ 63) : ¬ lN n = 0 := fun e => by
  have := (pk_lEQ (a := n) (b := 0) h (by decide)).mp e
  omega
def dr : Nat → Nat → tn_T → tn_T
  | 0, _, T => T
  | r + 1, x, T => dr r (x * 48271 % 2147483647) (tn_bh T ((tn_ul T).getD (x * 48271 % 2147483647 % (r + 1)) 0))
def cd (T : tn_T) (s : Nat) : Nat := tn_pc (tn_cb (dr (tn_pc (tn_nb T)) (s + 1) T))
def hd (T : tn_T) (s n : Nat) : Nat → Nat
  | 0 => 0
  | k + 1 => hd T s n k + (if cd T (s + k) ≤ n then 1 else 0)
theorem hd_le (T : tn_T) (s n : Nat) : ∀ k, hd T s n k ≤ k
  | 0 => Nat.le_refl 0
  | k + 1 => by
    have := hd_le T s n k
    rw [hd]; split <;> omega
set_option maxRecDepth 1000000 in
theorem ul_dec : ∀ L, L < 8 → ∀ u, u < 128 → u < 2 ^ L → ((List.range L).filter fun l => !u.testBit l).length = tn_pc ((2 ^ L - 1) ^^^ u) := by decide +kernel
set_option maxRecDepth 1000000 in
theorem ul_dec2 : ∀ L, L < 8 → ∀ u, u < 128 → u < 2 ^ L → ∀ l, l < L → u.testBit l = false → tn_pc ((2 ^ L - 1) ^^^ (u ||| 2 ^ l)) + 1 = tn_pc ((2 ^ L - 1) ^^^ u) := by decide +kernel
theorem ul_len {T : tn_T} (hT : tn_ok T) : (tn_ul T).length = tn_pc (tn_nb T) := ul_dec (tn_L T) (by have := hT.1; omega) (tn_u T) (tn_u_lt hT) hT.2.2.1
theorem ul_mem {T : tn_T} {l : Nat} (h : l ∈ tn_ul T) : l < tn_L T ∧ (tn_u T).testBit l = false := by
  obtain ⟨h1, h2⟩ := List.mem_filter.mp h
  refine ⟨List.mem_range.mp h1, ?_⟩
  unfold tn_un at h2
  cases hz : (tn_u T).testBit l with
  | false => rfl
  | true => rw [hz] at h2; cases h2
theorem ul_put {T : tn_T} (hT : tn_ok T) {l : Nat} (h : l ∈ tn_ul T) : tn_pc (tn_nb (tn_bh T l)) + 1 = tn_pc (tn_nb T) := by
  obtain ⟨h1, h2⟩ := ul_mem h
  exact ul_dec2 (tn_L T) (by have := hT.1; omega) (tn_u T) (tn_u_lt hT) hT.2.2.1 l h1 h2
theorem ul_bl {T : tn_T} (hT : tn_ok T) : bl (tn_L T) (tn_nb T) = tn_ul T := by
  unfold bl tn_ul
  refine List.filter_congr (fun l hl => ?_)
  have hl := List.mem_range.mp hl
  have hL := hT.1
  rw [(tn_nb_bits hT).2 l (by omega), decide_eq_true hl]
  rfl
theorem ul_at {T : tn_T} (hT : tn_ok T) {i : Nat} (hi : i < tn_pc (tn_nb T)) : (tn_ul T)[i]? = some ((tn_ul T).getD i 0) ∧ (tn_ul T).getD i 0 ∈ tn_ul T := by
  have h : i < (tn_ul T).length := by rw [ul_len hT]; exact hi
  refine ⟨?_, getD_mem h⟩
  rw [List.getD_eq_getElem?_getD, List.getElem?_eq_getElem h]
  rfl
/-- what drawing, on the other side, changes -/
def fd (σ σ' : qm_St) : Prop := (∀ s, ¬ s = 28 → ¬ s = 44 → qm_rI σ' s = qm_rI σ s) ∧ ∀ r, ¬ r = 45 → ¬ r = 46 → ¬ r = 60 → ∀ k, qm_rF σ' r k = qm_rF σ r k
theorem fd.rf (σ : qm_St) : fd σ σ := ⟨fun _ _ _ => rfl, fun _ _ _ _ _ => rfl⟩
theorem fd.tr {a b c : qm_St} (h : fd a b) (g : fd b c) : fd a c := ⟨fun s h1 h2 => (g.1 s h1 h2).trans (h.1 s h1 h2), fun r h1 h2 h3 k => (g.2 r h1 h2 h3 k).trans (h.2 r h1 h2 h3 k)⟩
theorem fd.a {a b : qm_St} (h : sm a b 28 29 45 47) : fd a b := ⟨fun s h1 h2 => h.1 s (by omega), fun r h1 h2 h3 k => h.2 r (by omega) k⟩
theorem fd.b {a b : qm_St} (h : sm a b 44 45 60 61) : fd a b := ⟨fun s h1 h2 => h.1 s (by omega), fun r h1 h2 h3 k => h.2 r (by omega) k⟩
theorem fd.KP {a b : qm_St} {T : tn_T} (h : KP a T) (g : fd a b) : KP b T := by
  refine ⟨by rw [g.1 _ (by decide) (by decide)]; exact h.1, fun l hl => ?_⟩
  rw [g.2 _ (by decide) (by decide) (by decide), g.2 _ (by decide) (by decide) (by decide), g.2 _ (by decide) (by decide) (by decide)]
  exact h.2 l hl
theorem back_fd {σ σ1 σ2 σ3 : qm_St} {T : tn_T} (h : MR σ T) (h3 : MR σ3 T) (s1 : sm σ σ1 43 44 59 60) (s2 : fd σ1 σ2) (s3 : sm σ2 σ3 28 29 44 47) : sl σ σ3 43 45 44 47 59 61 := by
  refine ⟨fun s hs => ?_, fun r hr hr2 k => ?_⟩
  · by_cases e : s = 28
    · subst e
      have e1 : qm_rI σ3 28 = tn_n T := h3.2.1
      have e2 : qm_rI σ 28 = tn_n T := h.2.1
      rw [e1, e2]
    · rw [s3.1 s (by omega), s2.1 s e (by omega), s1.1 s (by omega)]
  · rw [s3.2 r (by omega), s2.2 r (by omega) (by omega) (by omega), s1.2 r (by omega)]
/-- the greatest that divides both, from d down -/
def cv (a b : Nat) : Nat → Nat
  | 0 => 1
  | d + 1 => if 1 < d + 1 then (if a % (d + 1) = 0 ∧ b % (d + 1) = 0 then d + 1 else cv a b d) else 1
set_option maxRecDepth 1000000 in
theorem cv_dec : ∀ b, b < 41 → 0 < b → ∀ a, a < 41 → a ≤ b → cv a b b = Nat.gcd a b ∧ 0 < Nat.gcd a b ∧ Nat.gcd a b ≤ b := by decide +kernel
def od (h s part : Nat) : Nat := (if part = 0 then h else s) / Nat.gcd h s
theorem gcd_s (a b : Nat) : Nat.gcd b (a % b) = Nat.gcd a b := by
  rw [Nat.gcd_comm b, ← Nat.gcd_rec, Nat.gcd_comm]

set_option maxHeartbeats 2000000 in
theorem l_drawnC (s : Nat) : ∀ (r x : Nat) (T1 : tn_T) (σ1 : qm_St), tn_ok T1 → TR σ1 13 23 T1 → tn_pc (tn_nb T1) = r → r ≤ 7 → x < 2 ^ 31 → ∃ σ', Ex qm_lay 20 mX8_coloursDrawn 28 [some (.ref 54), some (.int (nI s)), some (.long (lN x)), none, some (.int (nI r))] [] σ1 (some (.int (nI (tn_pc (tn_cb (dr r x T1)))))) σ' ∧ sm σ1 σ' 13 17 23 28 := by
  intro r
  induction r with
  | zero =>
    intro x T1 σ1 hok h1 hr h7 hx
    refine ⟨σ1, ?_, sm.rf _ _ _ _ _⟩
    refine ex_iload dX8_coloursDrawn_28 rfl rfl ?_
    refine ex_if_le (q := 70) (q2 := 33) dX8_coloursDrawn_30 rfl rfl (fun _ => ?_) (fun hh => absurd (by decide) hh)
    refine ex_aload_n dX8_coloursDrawn_70 rfl rfl ?_
    refine ex_getR (b := 28) dX8_coloursDrawn_71 rfl qp_7_16 rfl rfl ?_
    refine ex_callV (a := 28) (rest := []) dX8_coloursDrawn_74 rfl qp_7_68 rfl rfl rfl rfl rfl (Nat.le_of_ble_eq_true rfl) (c_howMany_1 hok h1) (Nat.le_of_ble_eq_true rfl) ?_
    show Ex qm_lay _ mX8_coloursDrawn 77 [some (.ref 54), some (.int (nI s)), some (.long (lN x)), none, some (.int (nI 0))] [.int (nI (tn_pc (tn_cb T1)))] σ1 _ _
    exact ex_iret dX8_coloursDrawn_77 rfl rfl rfl
  | succ r ih =>
    intro x T1 σ1 hok h1 hr h7 hx
    obtain ⟨x1, hx1⟩ : ∃ x1, x1 = x * 48271 % 2147483647 := ⟨_, rfl⟩
    have hx1lt : x1 < 2147483647 := by rw [hx1]; exact Nat.mod_lt _ (by decide)
    have hm := Nat.mod_lt x1 (show 0 < r + 1 by omega)
    obtain ⟨hq, hqm⟩ := ul_at hok (show x1 % (r + 1) < tn_pc (tn_nb T1) by rw [hr]; exact hm)
    obtain ⟨q, hqe⟩ : ∃ q, q = (tn_ul T1).getD (x1 % (r + 1)) 0 := ⟨_, rfl⟩
    rw [← hqe] at hq hqm
    have hpr := ul_put hok hqm
    have e1 : dr (r + 1) x T1 = dr r x1 (tn_bh T1 q) := by rw [dr, ← hx1, ← hqe]
    have hqL := (ul_mem hqm).1
    rw [e1]
    obtain ⟨σ2, hO, hT2, hs2⟩ := c_buildHouse_1 hok h1 hqL
    obtain ⟨σ3, hE, hs3⟩ := ih x1 (tn_bh T1 q) σ2 (tn_bh_ok hok hqL) hT2 (by omega) (by omega) (by omega)
    refine ⟨σ3, ?_, hs2.tr hs3⟩
    refine ex_iload dX8_coloursDrawn_28 rfl rfl ?_
    refine ex_if_le (q := 70) (q2 := 33) dX8_coloursDrawn_30 rfl rfl (fun hh => absurd hh (nI_ge (a := 0) (b := r + 1) (by omega) (by omega))) (fun _ => ?_)
    refine ex_lload_n dX8_coloursDrawn_33 rfl rfl ?_
    refine ex_ldc2_w (x := 48271) dX8_coloursDrawn_34 rfl qp_7_273 ?_
    refine ex_lmul (z := lN (x * 48271)) dX8_coloursDrawn_37 rfl (lN_mul x 48271) ?_
    refine ex_ldc2_w (x := 2147483647) dX8_coloursDrawn_38 rfl qp_7_275 ?_
    refine ex_lrem (z := lN x1) dX8_coloursDrawn_41 rfl (by decide) (by rw [hx1]; exact pk_lRem (by omega) (by decide) (by decide)) ?_
    refine ex_lstore_n (ls' := [some (.ref 54), some (.int (nI s)), some (.long (lN x1)), none, some (.int (nI (r + 1)))]) dX8_coloursDrawn_42 rfl (Nat.le_of_ble_eq_true rfl) rfl rfl ?_
    refine ex_aload_n dX8_coloursDrawn_43 rfl rfl ?_
    refine ex_getR (b := 28) dX8_coloursDrawn_44 rfl qp_7_16 rfl rfl ?_
    refine ex_aload_n dX8_coloursDrawn_47 rfl rfl ?_
    refine ex_getR (b := 28) dX8_coloursDrawn_48 rfl qp_7_16 rfl rfl ?_
    refine ex_lload_n dX8_coloursDrawn_51 rfl rfl ?_
    refine ex_iload dX8_coloursDrawn_52 rfl rfl ?_
    refine ex_i2l (z := lN (r + 1)) dX8_coloursDrawn_54 rfl (nI_l (by omega)) ?_
    refine ex_lrem (z := lN (x1 % (r + 1))) dX8_coloursDrawn_55 rfl (lN_n0 (by omega) (by omega)) (pk_lRem (by omega) (by omega) (by omega)) ?_
    refine ex_l2i (z := nI (x1 % (r + 1))) dX8_coloursDrawn_56 rfl (lN_i _) ?_
    refine ex_callV (a := 28) (rest := [.ref 28]) dX8_coloursDrawn_57 rfl qp_7_277 rfl rfl rfl rfl rfl (Nat.le_of_ble_eq_true rfl) (c_unbuiltLot_1 hok h1 (by omega) hq) (Nat.le_of_ble_eq_true rfl) ?_
    show Ex qm_lay _ mX8_coloursDrawn 60 [some (.ref 54), some (.int (nI s)), some (.long (lN x1)), none, some (.int (nI (r + 1)))] [.int (nI q), .ref 28] σ1 _ _
    refine ex_callV (a := 28) (rest := []) dX8_coloursDrawn_60 rfl qp_7_133 rfl rfl rfl rfl rfl (Nat.le_of_ble_eq_true rfl) (hO) (Nat.le_of_ble_eq_true rfl) ?_
    show Ex qm_lay _ mX8_coloursDrawn 63 [some (.ref 54), some (.int (nI s)), some (.long (lN x1)), none, some (.int (nI (r + 1)))] [.int (nI (tn_wd T1 q))] σ2 _ _
    refine ex_pop dX8_coloursDrawn_63 rfl rfl ?_
    refine ex_iinc (y := nI r) (ls' := [some (.ref 54), some (.int (nI s)), some (.long (lN x1)), none, some (.int (nI r))]) dX8_coloursDrawn_64 rfl rfl rfl (pk_m1 r) rfl ?_
    refine ex_goto (q := 28) dX8_coloursDrawn_67 rfl ?_
    exact hE

set_option maxHeartbeats 2000000 in
theorem c_coloursDrawn {σ : qm_St} {T : tn_T} (hT : tn_ok T) (h : TR σ 9 18 T) {s : Nat} (hs : s < 2 ^ 30) : ∃ σ', Ok qm_lay 20 mX8_coloursDrawn [.ref 54, .int (nI s)] σ (some (.int (nI (cd T s)))) σ' ∧ sm σ σ' 13 17 23 28 := by
  have hnb := tn_nb_bits hT
  have hL := hT.1
  have h128 : 2 ^ tn_L T ≤ 128 := Nat.pow_le_pow_right (n := 2) (by omega) hL
  have hnb7 : tn_nb T < 128 := by omega
  obtain ⟨σ1, hO1, hT1, hs1⟩ := c_becomes_10 hT h
  obtain ⟨σ2, hE, hs2⟩ := l_drawnC s (tn_pc (tn_nb T)) (s + 1) T σ1 hT hT1 rfl (tn_pc_7 _ hnb7) (by omega)
  refine ⟨σ2, ?_, hs1.tr hs2⟩
  refine Ok.of (ls := [some (.ref 54), some (.int (nI s)), none, none, none]) (Nat.le_of_ble_eq_true rfl) rfl ?_
  refine ex_aload_n dX8_coloursDrawn_0 rfl rfl ?_
  refine ex_getR (b := 28) dX8_coloursDrawn_1 rfl qp_7_16 rfl rfl ?_
  refine ex_aload_n dX8_coloursDrawn_4 rfl rfl ?_
  refine ex_getR (b := 22) dX8_coloursDrawn_5 rfl qp_7_10 rfl rfl ?_
  refine ex_callV (a := 28) (rest := []) dX8_coloursDrawn_8 rfl qp_7_172 rfl rfl rfl rfl rfl (Nat.le_of_ble_eq_true rfl) (hO1) (Nat.le_of_ble_eq_true rfl) ?_
  show Ex qm_lay _ mX8_coloursDrawn 11 [some (.ref 54), some (.int (nI s)), none, none, none] [] σ1 _ _
  refine ex_iload_n dX8_coloursDrawn_11 rfl rfl ?_
  refine ex_i2l (z := lN s) dX8_coloursDrawn_12 rfl (nI_l (by omega)) ?_
  refine ex_lconst (x := 1) dX8_coloursDrawn_13 rfl rfl ?_
  refine ex_ladd (z := lN (s + 1)) dX8_coloursDrawn_14 rfl (lN_1 s) ?_
  refine ex_lstore_n (ls' := [some (.ref 54), some (.int (nI s)), some (.long (lN (s + 1))), none, none]) dX8_coloursDrawn_15 rfl (Nat.le_of_ble_eq_true rfl) rfl rfl ?_
  refine ex_aload_n dX8_coloursDrawn_16 rfl rfl ?_
  refine ex_getR (b := 28) dX8_coloursDrawn_17 rfl qp_7_16 rfl rfl ?_
  refine ex_callV (a := 28) (rest := []) dX8_coloursDrawn_20 rfl qp_7_190 rfl rfl rfl rfl rfl (Nat.le_of_ble_eq_true rfl) (c_unbuiltBits_1 hT hT1) (Nat.le_of_ble_eq_true rfl) ?_
  show Ex qm_lay _ mX8_coloursDrawn 23 [some (.ref 54), some (.int (nI s)), some (.long (lN (s + 1))), none, none] [.int (nI (tn_nb T))] σ1 _ _
  refine ex_callS (rest := []) dX8_coloursDrawn_23 rfl qp_7_270 rfl rfl rfl (Nat.le_of_ble_eq_true rfl) ((c_bitCount _ _).eq (by rw [jk_bc_nI _ (by omega)]) rfl) (Nat.le_of_ble_eq_true rfl) ?_
  show Ex qm_lay _ mX8_coloursDrawn 26 [some (.ref 54), some (.int (nI s)), some (.long (lN (s + 1))), none, none] [.int (nI (tn_pc (tn_nb T)))] σ1 _ _
  refine ex_istore (ls' := [some (.ref 54), some (.int (nI s)), some (.long (lN (s + 1))), none, some (.int (nI (tn_pc (tn_nb T))))]) dX8_coloursDrawn_26 rfl (Nat.le_of_ble_eq_true rfl) rfl rfl ?_
  exact hE

set_option maxHeartbeats 2000000 in
theorem l_drawnM {T : tn_T} (hT : tn_ok T) (s : Nat) : ∀ (r x : Nat) (y : Option Value) (T1 : tn_T) (σ1 : qm_St), tn_ok T1 → MR σ1 T1 → RR σ1 (tn_ul T1) → tn_pc (tn_nb T1) = r → r ≤ 7 → x < 2 ^ 31 → KP σ1 T → MS σ1 T → ∃ σ', Ex qm_lay 20 mX9_manyBy 17 [some (.ref 55), some (.int (nI s)), some (.long (lN x)), none, y] [] σ1 (some (.int (nI (tn_pc (tn_cb (dr r x T1)))))) σ' ∧ (∃ σ2, fd σ1 σ2 ∧ sm σ2 σ' 28 29 44 47) ∧ MR σ' T := by
  intro r
  induction r with
  | zero =>
    intro x y T1 σ1 hok h1 hR hr h7 hx hK hM
    have hlen := ul_len hok
    obtain ⟨σ', hO, hR', hs⟩ := k_laysBack hT hK hM
    refine ⟨σ', ?_, ⟨σ1, fd.rf _, hs⟩, hR'⟩
    refine ex_aload_n dX9_manyBy_17 rfl rfl ?_
    refine ex_getI (s := 44) (x := nI ((tn_ul T1).length)) dX9_manyBy_18 rfl qp_8_235 rfl rfl (hR.1) ?_
    refine ex_if_le (q := 72) (q2 := 24) dX9_manyBy_21 rfl rfl (fun _ => ?_) (fun hh => absurd (by rw [hlen, hr]; decide) hh)
    refine ex_aload_n dX9_manyBy_72 rfl rfl ?_
    refine ex_callV (a := 55) (rest := []) dX9_manyBy_73 rfl qp_8_99 rfl rfl rfl rfl rfl (Nat.le_of_ble_eq_true rfl) (k_howMany hok h1) (Nat.le_of_ble_eq_true rfl) ?_
    show Ex qm_lay _ mX9_manyBy 76 [some (.ref 55), some (.int (nI s)), some (.long (lN x)), none, y] [.int (nI (tn_pc (tn_cb T1)))] σ1 _ _
    refine ex_istore (ls' := [some (.ref 55), some (.int (nI s)), some (.long (lN x)), none, some (.int (nI (tn_pc (tn_cb T1))))]) dX9_manyBy_76 rfl (Nat.le_of_ble_eq_true rfl) rfl rfl ?_
    refine ex_aload_n dX9_manyBy_78 rfl rfl ?_
    refine ex_callV (a := 55) (rest := []) dX9_manyBy_79 rfl qp_8_229 rfl rfl rfl rfl rfl (Nat.le_of_ble_eq_true rfl) (hO) (Nat.le_of_ble_eq_true rfl) ?_
    show Ex qm_lay _ mX9_manyBy 82 [some (.ref 55), some (.int (nI s)), some (.long (lN x)), none, some (.int (nI (tn_pc (tn_cb T1))))] [] σ' _ _
    refine ex_iload dX9_manyBy_82 rfl rfl ?_
    exact ex_iret dX9_manyBy_84 rfl rfl rfl
  | succ r ih =>
    intro x y T1 σ1 hok h1 hR hr h7 hx hK hM
    have hlen : (tn_ul T1).length = r + 1 := by rw [ul_len hok, hr]
    have hL1 := hok.1
    obtain ⟨x1, hx1⟩ : ∃ x1, x1 = x * 48271 % 2147483647 := ⟨_, rfl⟩
    have hx1lt : x1 < 2147483647 := by rw [hx1]; exact Nat.mod_lt _ (by decide)
    have hm := Nat.mod_lt x1 (show 0 < r + 1 by omega)
    obtain ⟨hq, hqm⟩ := ul_at hok (show x1 % (r + 1) < tn_pc (tn_nb T1) by rw [hr]; exact hm)
    obtain ⟨q, hqe⟩ : ∃ q, q = (tn_ul T1).getD (x1 % (r + 1)) 0 := ⟨_, rfl⟩
    rw [← hqe] at hq hqm
    have hpr := ul_put hok hqm
    have e1 : dr (r + 1) x T1 = dr r x1 (tn_bh T1 q) := by rw [dr, ← hx1, ← hqe]
    have hqL := (ul_mem hqm).1
    rw [e1]
    obtain ⟨σ2, hO, hT2, hs2⟩ := k_builds hok h1 hqL (tn_wd T1 q)
    have hok2 := tn_bh_ok hok hqL
    have hnb2 := tn_nb_bits hok2
    have h128 : 2 ^ tn_L (tn_bh T1 q) ≤ 128 := Nat.pow_le_pow_right (n := 2) (by omega) hok2.1
    obtain ⟨σ3, hO3, hR3, hs3⟩ := k_begins hok2 hT2 (b := tn_nb (tn_bh T1 q)) (by omega)
    rw [ul_bl hok2] at hR3
    have hf : fd σ1 σ3 := (fd.a hs2).tr (fd.b hs3)
    have hM3 : MS σ3 T := (hM.sm hs2 (by omega) (by omega)).sm hs3 (by omega) (by omega)
    obtain ⟨σ4, hE, ⟨σ5, hf5, hs5⟩, hR4⟩ := ih x1 (some (.int (nI q))) (tn_bh T1 q) σ3 hok2 (hT2.sm hs3 (by omega) (by omega)) hR3 (by omega) (by omega) (by omega) (hf.KP hK) hM3
    refine ⟨σ4, ?_, ⟨σ5, hf.tr hf5, hs5⟩, hR4⟩
    refine ex_aload_n dX9_manyBy_17 rfl rfl ?_
    refine ex_getI (s := 44) (x := nI (r + 1)) dX9_manyBy_18 rfl qp_8_235 rfl rfl ((by rw [← hlen]; exact hR.1)) ?_
    refine ex_if_le (q := 72) (q2 := 24) dX9_manyBy_21 rfl rfl (fun hh => absurd hh (nI_ge (a := 0) (b := r + 1) (by omega) (by omega))) (fun _ => ?_)
    refine ex_lload_n dX9_manyBy_24 rfl rfl ?_
    refine ex_ldc2_w (x := 48271) dX9_manyBy_25 rfl qp_8_296 ?_
    refine ex_lmul (z := lN (x * 48271)) dX9_manyBy_28 rfl (lN_mul x 48271) ?_
    refine ex_ldc2_w (x := 2147483647) dX9_manyBy_29 rfl qp_8_298 ?_
    refine ex_lrem (z := lN x1) dX9_manyBy_32 rfl (by decide) (by rw [hx1]; exact pk_lRem (by omega) (by decide) (by decide)) ?_
    refine ex_lstore_n (ls' := [some (.ref 55), some (.int (nI s)), some (.long (lN x1)), none, y]) dX9_manyBy_33 rfl (Nat.le_of_ble_eq_true rfl) rfl rfl ?_
    refine ex_aload_n dX9_manyBy_34 rfl rfl ?_
    refine ex_getR (b := 74) dX9_manyBy_35 rfl qp_8_64 rfl rfl ?_
    refine ex_lload_n dX9_manyBy_38 rfl rfl ?_
    refine ex_aload_n dX9_manyBy_39 rfl rfl ?_
    refine ex_getI (s := 44) (x := nI (r + 1)) dX9_manyBy_40 rfl qp_8_235 rfl rfl ((by rw [← hlen]; exact hR.1)) ?_
    refine ex_i2l (z := lN (r + 1)) dX9_manyBy_43 rfl (nI_l (by omega)) ?_
    refine ex_lrem (z := lN (x1 % (r + 1))) dX9_manyBy_44 rfl (lN_n0 (by omega) (by omega)) (pk_lRem (by omega) (by omega) (by omega)) ?_
    refine ex_l2i (z := nI (x1 % (r + 1))) dX9_manyBy_45 rfl (lN_i _) ?_
    refine ex_iaload (k := x1 % (r + 1)) (x := nI q) dX9_manyBy_46 rfl rfl (rfl) (by exact Nat.lt_of_lt_of_le hm (by omega)) (by decide) ((by rw [hqe]; exact hR.2.2 _ (by omega))) ?_
    refine ex_istore (ls' := [some (.ref 55), some (.int (nI s)), some (.long (lN x1)), none, some (.int (nI q))]) dX9_manyBy_47 rfl (Nat.le_of_ble_eq_true rfl) rfl rfl ?_
    refine ex_aload_n dX9_manyBy_49 rfl rfl ?_
    refine ex_iload dX9_manyBy_50 rfl rfl ?_
    refine ex_aload_n dX9_manyBy_52 rfl rfl ?_
    refine ex_iload dX9_manyBy_53 rfl rfl ?_
    refine ex_callV (a := 55) (rest := [.int (nI q), .ref 55]) dX9_manyBy_55 rfl qp_8_202 rfl rfl rfl rfl rfl (Nat.le_of_ble_eq_true rfl) (k_wouldTake hok h1 hqL) (Nat.le_of_ble_eq_true rfl) ?_
    show Ex qm_lay _ mX9_manyBy 58 [some (.ref 55), some (.int (nI s)), some (.long (lN x1)), none, some (.int (nI q))] [.int (nI (tn_wd T1 q)), .int (nI q), .ref 55] σ1 _ _
    refine ex_callV (a := 55) (rest := []) dX9_manyBy_58 rfl qp_8_205 rfl rfl rfl rfl rfl (Nat.le_of_ble_eq_true rfl) (hO) (Nat.le_of_ble_eq_true rfl) ?_
    show Ex qm_lay _ mX9_manyBy 61 [some (.ref 55), some (.int (nI s)), some (.long (lN x1)), none, some (.int (nI q))] [] σ2 _ _
    refine ex_aload_n dX9_manyBy_61 rfl rfl ?_
    refine ex_aload_n dX9_manyBy_62 rfl rfl ?_
    refine ex_callV (a := 55) (rest := [.ref 55]) dX9_manyBy_63 rfl qp_8_244 rfl rfl rfl rfl rfl (Nat.le_of_ble_eq_true rfl) (k_notBuilt hok2 hT2) (Nat.le_of_ble_eq_true rfl) ?_
    show Ex qm_lay _ mX9_manyBy 66 [some (.ref 55), some (.int (nI s)), some (.long (lN x1)), none, some (.int (nI q))] [.int (nI (tn_nb (tn_bh T1 q))), .ref 55] σ2 _ _
    refine ex_callV (a := 55) (rest := []) dX9_manyBy_66 rfl qp_8_247 rfl rfl rfl rfl rfl (Nat.le_of_ble_eq_true rfl) (hO3) (Nat.le_of_ble_eq_true rfl) ?_
    show Ex qm_lay _ mX9_manyBy 69 [some (.ref 55), some (.int (nI s)), some (.long (lN x1)), none, some (.int (nI q))] [] σ3 _ _
    refine ex_goto (q := 17) dX9_manyBy_69 rfl ?_
    exact hE

set_option maxHeartbeats 2000000 in
theorem k_manyBy {σ : qm_St} {T : tn_T} (hT : tn_ok T) (h : MR σ T) {s : Nat} (hs : s < 2 ^ 30) : ∃ σ', Ok qm_lay 20 mX9_manyBy [.ref 55, .int (nI s)] σ (some (.int (nI (cd T s)))) σ' ∧ MR σ' T ∧ sl σ σ' 43 45 44 47 59 61 := by
  have hnb := tn_nb_bits hT
  have hL := hT.1
  have h128 : 2 ^ tn_L T ≤ 128 := Nat.pow_le_pow_right (n := 2) (by omega) hL
  have hnb7 : tn_nb T < 128 := by omega
  obtain ⟨σ1, hO1, hK1, hs1⟩ := k_keeps hT h
  have h1 := h.sm hs1 (by omega) (by omega)
  obtain ⟨σ2, hO2, hR2, hs2⟩ := k_begins hT h1 hnb7
  rw [ul_bl hT] at hR2
  have h2 := h1.sm hs2 (by omega) (by omega)
  obtain ⟨σ3, hE, ⟨σ4, hf, hs4⟩, hR3⟩ := l_drawnM hT s (tn_pc (tn_nb T)) (s + 1) none T σ2 hT h2 hR2 rfl (tn_pc_7 _ hnb7) (by omega) ((fd.b hs2).KP hK1) h2.1
  refine ⟨σ3, ?_, hR3, back_fd h hR3 hs1 ((fd.b hs2).tr hf) hs4⟩
  refine Ok.of (ls := [some (.ref 55), some (.int (nI s)), none, none, none]) (Nat.le_of_ble_eq_true rfl) rfl ?_
  refine ex_iload_n dX9_manyBy_0 rfl rfl ?_
  refine ex_i2l (z := lN s) dX9_manyBy_1 rfl (nI_l (by omega)) ?_
  refine ex_lconst (x := 1) dX9_manyBy_2 rfl rfl ?_
  refine ex_ladd (z := lN (s + 1)) dX9_manyBy_3 rfl (lN_1 s) ?_
  refine ex_lstore_n (ls' := [some (.ref 55), some (.int (nI s)), some (.long (lN (s + 1))), none, none]) dX9_manyBy_4 rfl (Nat.le_of_ble_eq_true rfl) rfl rfl ?_
  refine ex_aload_n dX9_manyBy_5 rfl rfl ?_
  refine ex_callV (a := 55) (rest := []) dX9_manyBy_6 rfl qp_8_226 rfl rfl rfl rfl rfl (Nat.le_of_ble_eq_true rfl) (hO1) (Nat.le_of_ble_eq_true rfl) ?_
  show Ex qm_lay _ mX9_manyBy 9 [some (.ref 55), some (.int (nI s)), some (.long (lN (s + 1))), none, none] [] σ1 _ _
  refine ex_aload_n dX9_manyBy_9 rfl rfl ?_
  refine ex_aload_n dX9_manyBy_10 rfl rfl ?_
  refine ex_callV (a := 55) (rest := [.ref 55]) dX9_manyBy_11 rfl qp_8_244 rfl rfl rfl rfl rfl (Nat.le_of_ble_eq_true rfl) (k_notBuilt hT h1) (Nat.le_of_ble_eq_true rfl) ?_
  show Ex qm_lay _ mX9_manyBy 14 [some (.ref 55), some (.int (nI s)), some (.long (lN (s + 1))), none, none] [.int (nI (tn_nb T)), .ref 55] σ1 _ _
  refine ex_callV (a := 55) (rest := []) dX9_manyBy_14 rfl qp_8_247 rfl rfl rfl rfl rfl (Nat.le_of_ble_eq_true rfl) (hO2) (Nat.le_of_ble_eq_true rfl) ?_
  show Ex qm_lay _ mX9_manyBy 17 [some (.ref 55), some (.int (nI s)), some (.long (lN (s + 1))), none, none] [] σ2 _ _
  exact hE

set_option maxHeartbeats 2000000 in
theorem j_drawn {T : tn_T} {X : gx_T} {P : gt_T} {Im : gi_T} {S : gs_T} (hG : gg_ok (T, X, P, Im, S)) (s : Int32) : J mX8_drawn mX9_drawn [.int s] (T, X, P, Im, S) := by
  have hT : tn_ok T := hG.1
  have hX : gx_ok X := hG.2.1
  have hP : gt_ok P := hG.2.2.1
  have hI : gi_ok T (gx_n X) Im := hG.2.2.2.1
  have hS : gs_ok S := hG.2.2.2.2.1
  have hw : tn_w T < gx_n X := hG.2.2.2.2.2
  have hL := hT.1
  have hw6 := hT.2.1
  have hu := tn_u_lt hT
  have hX6 := hX.2.1
  have hP6 := hP.1
  by_cases c1 : tn_in s 0 99999 = true
  · obtain ⟨s, hs, rfl⟩ := tn_in_of (n := 99999) (by decide) c1
    refine J.u (.int (nI (cd T s))) (T, X, P, Im, S) hG (fun σ hC => ?_) (fun σ hM => ?_)
    · have h : TR σ 9 18 T := hC.1
      obtain ⟨σ', hO, hs1⟩ := c_coloursDrawn hT h (s := s) (by omega)
      refine ⟨σ', ?_, CG.think hG hC hs1, hs1.wid (by omega) (by omega)⟩
      refine Ok.of (ls := [some (.ref 54), some (.int (nI s))]) (Nat.le_of_ble_eq_true rfl) rfl ?_
      refine ex_iload_n dX8_drawn_0 rfl rfl ?_
      refine ex_callS (rest := []) dX8_drawn_1 rfl qp_7_263 rfl rfl rfl (Nat.le_of_ble_eq_true rfl) (c_isSeed _ _) (Nat.le_of_ble_eq_true rfl) ?_
      show Ex qm_lay _ mX8_drawn 4 [some (.ref 54), some (.int (nI s))] [.int (b2i (tn_in (nI s) 0 99999))] σ _ _
      refine ex_if_eq (q := 15) (q2 := 7) dX8_drawn_4 rfl rfl (fun hh => absurd hh (b2i_n0.mpr (c1))) (fun _ => ?_)
      refine ex_aload_n dX8_drawn_7 rfl rfl ?_
      refine ex_iload_n dX8_drawn_8 rfl rfl ?_
      refine ex_callV (a := 54) (rest := []) dX8_drawn_9 rfl qp_7_266 rfl rfl rfl rfl rfl (Nat.le_of_ble_eq_true rfl) (hO) (Nat.le_of_ble_eq_true rfl) ?_
      show Ex qm_lay _ mX8_drawn 12 [some (.ref 54), some (.int (nI s))] [.int (nI (cd T s))] σ' _ _
      refine ex_goto (q := 17) dX8_drawn_12 rfl ?_
      exact ex_iret dX8_drawn_17 rfl rfl rfl
    · have h : MR σ T := hM.1
      obtain ⟨σ', hO, hR, hs1⟩ := k_manyBy hT h (s := s) (by omega)
      refine ⟨σ', ?_, MG.thinkL (G := (T, X, P, Im, S)) hM hR ⟨fun s hs => hs1.1 s (by omega), fun r hr hr2 k => hs1.2 r (by omega) (by omega) k⟩, hs1.sm (by omega) (by omega) (by omega)⟩
      refine Ok.of (ls := [some (.ref 55), some (.int (nI s))]) (Nat.le_of_ble_eq_true rfl) rfl ?_
      refine ex_iload_n dX9_drawn_0 rfl rfl ?_
      refine ex_iconst (x := 0) dX9_drawn_1 rfl rfl ?_
      refine ex_ldc_w (x := 99999) dX9_drawn_2 rfl qp_8_300 ?_
      refine ex_callS (rest := []) dX9_drawn_5 rfl qp_8_81 rfl rfl rfl (Nat.le_of_ble_eq_true rfl) (k_in _ _ _ _) (Nat.le_of_ble_eq_true rfl) ?_
      show Ex qm_lay _ mX9_drawn 8 [some (.ref 55), some (.int (nI s))] [.int (b2i (tn_in (nI s) 0 99999))] σ _ _
      refine ex_if_eq (q := 19) (q2 := 11) dX9_drawn_8 rfl rfl (fun hh => absurd hh (b2i_n0.mpr (c1))) (fun _ => ?_)
      refine ex_aload_n dX9_drawn_11 rfl rfl ?_
      refine ex_iload_n dX9_drawn_12 rfl rfl ?_
      refine ex_callV (a := 55) (rest := []) dX9_drawn_13 rfl qp_8_301 rfl rfl rfl rfl rfl (Nat.le_of_ble_eq_true rfl) (hO) (Nat.le_of_ble_eq_true rfl) ?_
      show Ex qm_lay _ mX9_drawn 16 [some (.ref 55), some (.int (nI s))] [.int (nI (cd T s))] σ' _ _
      refine ex_goto (q := 21) dX9_drawn_16 rfl ?_
      exact ex_iret dX9_drawn_21 rfl rfl rfl
  · refine J.q hG (.int (-2)) (fun σ hC => ?_) (fun σ hM => ?_)
    · have h : TR σ 9 18 T := hC.1
      refine Ok.of (ls := [some (.ref 54), some (.int s)]) (Nat.le_of_ble_eq_true rfl) rfl ?_
      refine ex_iload_n dX8_drawn_0 rfl rfl ?_
      refine ex_callS (rest := []) dX8_drawn_1 rfl qp_7_263 rfl rfl rfl (Nat.le_of_ble_eq_true rfl) (c_isSeed _ _) (Nat.le_of_ble_eq_true rfl) ?_
      show Ex qm_lay _ mX8_drawn 4 [some (.ref 54), some (.int s)] [.int (b2i (tn_in s 0 99999))] σ _ _
      refine ex_if_eq (q := 15) (q2 := 7) dX8_drawn_4 rfl rfl (fun _ => ?_) (fun hh => absurd (b2i_0.mpr (by simpa using c1)) hh)
      refine ex_bipush (x := (-2)) dX8_drawn_15 rfl rfl ?_
      exact ex_iret dX8_drawn_17 rfl rfl rfl
    · have h : MR σ T := hM.1
      refine Ok.of (ls := [some (.ref 55), some (.int s)]) (Nat.le_of_ble_eq_true rfl) rfl ?_
      refine ex_iload_n dX9_drawn_0 rfl rfl ?_
      refine ex_iconst (x := 0) dX9_drawn_1 rfl rfl ?_
      refine ex_ldc_w (x := 99999) dX9_drawn_2 rfl qp_8_300 ?_
      refine ex_callS (rest := []) dX9_drawn_5 rfl qp_8_81 rfl rfl rfl (Nat.le_of_ble_eq_true rfl) (k_in _ _ _ _) (Nat.le_of_ble_eq_true rfl) ?_
      show Ex qm_lay _ mX9_drawn 8 [some (.ref 55), some (.int s)] [.int (b2i (tn_in s 0 99999))] σ _ _
      refine ex_if_eq (q := 19) (q2 := 11) dX9_drawn_8 rfl rfl (fun _ => ?_) (fun hh => absurd (b2i_0.mpr (by simpa using c1)) hh)
      refine ex_bipush (x := (-2)) dX9_drawn_19 rfl rfl ?_
      exact ex_iret dX9_drawn_21 rfl rfl rfl

set_option maxHeartbeats 2000000 in
theorem l_commonDivisor {lay : List qm_LE} (σ : qm_St) {a b : Nat} (ha : a < 2 ^ 30) (hb : b < 2 ^ 30) : ∀ (d : Nat), d ≤ b → Ex lay 0 mX8_commonDivisor 2 [some (.int (nI a)), some (.int (nI b)), some (.int (nI d))] [] σ (some (.int (nI (cv a b d)))) σ := by
  intro d
  induction d with
  | zero =>
    intro hd
    refine ex_iload_n dX8_commonDivisor_2 rfl rfl ?_
    refine ex_iconst (x := 1) dX8_commonDivisor_3 rfl rfl ?_
    refine ex_icmp_le (q := 27) (q2 := 7) dX8_commonDivisor_4 rfl rfl (fun _ => ?_) (fun hh => absurd (by decide) hh)
    refine ex_iconst (x := 1) dX8_commonDivisor_27 rfl rfl ?_
    exact ex_iret dX8_commonDivisor_28 rfl rfl rfl
  | succ d ih =>
    intro hd
    rw [cv]
    by_cases c1 : 1 < d + 1
    · rw [if_pos c1]
      by_cases c2 : a % (d + 1) = 0 ∧ b % (d + 1) = 0
      · rw [if_pos c2]
        have ea : a % (d + 1) = 0 := c2.1
        have eb : b % (d + 1) = 0 := c2.2
        refine ex_iload_n dX8_commonDivisor_2 rfl rfl ?_
        refine ex_iconst (x := 1) dX8_commonDivisor_3 rfl rfl ?_
        refine ex_icmp_le (q := 27) (q2 := 7) dX8_commonDivisor_4 rfl rfl (fun hh => absurd hh (nI_ge (a := 1) (b := d + 1) (by omega) (by omega))) (fun _ => ?_)
        refine ex_iload_n dX8_commonDivisor_7 rfl rfl ?_
        refine ex_iload_n dX8_commonDivisor_8 rfl rfl ?_
        refine ex_irem (z := nI (a % (d + 1))) dX8_commonDivisor_9 rfl (fun zz => absurd ((nI_eq (a := d + 1) (b := 0) (by omega) (by decide)).mp zz) (by omega)) (pk_rem (by omega) (by omega) (by omega)) ?_
        refine ex_if_ne (q := 21) (q2 := 13) dX8_commonDivisor_10 rfl rfl (fun hh => absurd hh (fun zz => zz (by rw [ea]; rfl))) (fun _ => ?_)
        refine ex_iload_n dX8_commonDivisor_13 rfl rfl ?_
        refine ex_iload_n dX8_commonDivisor_14 rfl rfl ?_
        refine ex_irem (z := nI (b % (d + 1))) dX8_commonDivisor_15 rfl (fun zz => absurd ((nI_eq (a := d + 1) (b := 0) (by omega) (by decide)).mp zz) (by omega)) (pk_rem (by omega) (by omega) (by omega)) ?_
        refine ex_if_ne (q := 21) (q2 := 19) dX8_commonDivisor_16 rfl rfl (fun hh => absurd hh (fun zz => zz (by rw [eb]; rfl))) (fun _ => ?_)
        refine ex_iload_n dX8_commonDivisor_19 rfl rfl ?_
        exact ex_iret dX8_commonDivisor_20 rfl rfl rfl
      · rw [if_neg c2]
        have hma := Nat.mod_lt a (show 0 < d + 1 by omega)
        have hmb := Nat.mod_lt b (show 0 < d + 1 by omega)
        refine ex_iload_n dX8_commonDivisor_2 rfl rfl ?_
        refine ex_iconst (x := 1) dX8_commonDivisor_3 rfl rfl ?_
        refine ex_icmp_le (q := 27) (q2 := 7) dX8_commonDivisor_4 rfl rfl (fun hh => absurd hh (nI_ge (a := 1) (b := d + 1) (by omega) (by omega))) (fun _ => ?_)
        refine ex_iload_n dX8_commonDivisor_7 rfl rfl ?_
        refine ex_iload_n dX8_commonDivisor_8 rfl rfl ?_
        refine ex_irem (z := nI (a % (d + 1))) dX8_commonDivisor_9 rfl (fun zz => absurd ((nI_eq (a := d + 1) (b := 0) (by omega) (by decide)).mp zz) (by omega)) (pk_rem (by omega) (by omega) (by omega)) ?_
        refine ex_if_ne (q := 21) (q2 := 13) dX8_commonDivisor_10 rfl rfl (fun h10 => ?_) (fun h10 => ?_)
        · refine ex_iinc (y := nI d) (ls' := [some (.int (nI a)), some (.int (nI b)), some (.int (nI d))]) dX8_commonDivisor_21 rfl rfl rfl (pk_m1 d) rfl ?_
          refine ex_goto (q := 2) dX8_commonDivisor_24 rfl ?_
          exact ih (by omega)
        · have ea : a % (d + 1) = 0 := (nI_eq (b := 0) (by omega) (by decide)).mp (Decidable.not_not.mp h10)
          refine ex_iload_n dX8_commonDivisor_13 rfl rfl ?_
          refine ex_iload_n dX8_commonDivisor_14 rfl rfl ?_
          refine ex_irem (z := nI (b % (d + 1))) dX8_commonDivisor_15 rfl (fun zz => absurd ((nI_eq (a := d + 1) (b := 0) (by omega) (by decide)).mp zz) (by omega)) (pk_rem (by omega) (by omega) (by omega)) ?_
          refine ex_if_ne (q := 21) (q2 := 19) dX8_commonDivisor_16 rfl rfl (fun h16 => ?_) (fun h16 => ?_)
          · refine ex_iinc (y := nI d) (ls' := [some (.int (nI a)), some (.int (nI b)), some (.int (nI d))]) dX8_commonDivisor_21 rfl rfl rfl (pk_m1 d) rfl ?_
            refine ex_goto (q := 2) dX8_commonDivisor_24 rfl ?_
            exact ih (by omega)
          · exact absurd ⟨ea, (nI_eq (b := 0) (by omega) (by decide)).mp (Decidable.not_not.mp h16)⟩ c2
    · rw [if_neg c1]
      have hd0 : d = 0 := by omega
      subst hd0
      refine ex_iload_n dX8_commonDivisor_2 rfl rfl ?_
      refine ex_iconst (x := 1) dX8_commonDivisor_3 rfl rfl ?_
      refine ex_icmp_le (q := 27) (q2 := 7) dX8_commonDivisor_4 rfl rfl (fun _ => ?_) (fun hh => absurd (by decide) hh)
      refine ex_iconst (x := 1) dX8_commonDivisor_27 rfl rfl ?_
      exact ex_iret dX8_commonDivisor_28 rfl rfl rfl

theorem c_commonDivisor {lay : List qm_LE} (σ : qm_St) {a b : Nat} (ha : a < 2 ^ 30) (hb : b < 2 ^ 30) : Ok lay 0 mX8_commonDivisor [.int (nI a), .int (nI b)] σ (some (.int (nI (cv a b b)))) σ := by
  refine Ok.of (ls := [some (.int (nI a)), some (.int (nI b)), none]) (Nat.le_of_ble_eq_true rfl) rfl ?_
  refine ex_iload_n dX8_commonDivisor_0 rfl rfl ?_
  refine ex_istore_n (ls' := [some (.int (nI a)), some (.int (nI b)), some (.int (nI b))]) dX8_commonDivisor_1 rfl (Nat.le_of_ble_eq_true rfl) rfl rfl ?_
  exact l_commonDivisor σ ha hb b (Nat.le_refl b)

set_option maxHeartbeats 2000000 in
theorem l_lowest {lay : List qm_LE} (σ : qm_St) {h s q : Nat} (hh : h < 2 ^ 30) (hs : s < 2 ^ 30) (hq : q ≤ 1) (hg : 0 < Nat.gcd h s) : ∀ (f a b : Nat) (x : Option Value), b < f → a < 2 ^ 30 → b < 2 ^ 30 → Nat.gcd a b = Nat.gcd h s → Ex lay 0 mX9_lowest 16 [some (.long (lN h)), none, some (.long (lN s)), none, some (.int (nI q)), some (.long (lN a)), none, some (.long (lN b)), none, x, none] [] σ (some (.long (lN (od h s q)))) σ := by
  intro f
  induction f with
  | zero =>
    intro a b x hf
    exact absurd hf (Nat.not_lt_zero b)
  | succ f ih =>
    intro a b x hf ha hb he
    by_cases c1 : b = 0
    · subst c1
      rw [Nat.gcd_zero_right] at he
      subst he
      refine ex_lload dX9_lowest_16 rfl rfl ?_
      refine ex_lconst (x := 0) dX9_lowest_18 rfl rfl ?_
      refine ex_lcmp (z := lg_cmp (lN 0) 0) dX9_lowest_19 rfl rfl ?_
      refine ex_if_eq (q := 41) (q2 := 23) dX9_lowest_20 rfl rfl (fun _ => ?_) (fun hh => absurd (by decide) hh)
      refine ex_iload dX9_lowest_41 rfl rfl ?_
      refine ex_if_ne (q := 50) (q2 := 46) dX9_lowest_43 rfl rfl (fun h43 => ?_) (fun h43 => ?_)
      · have hq0 : ¬ q = 0 := fun z => h43 (congrArg nI z)
        refine ex_lload_n dX9_lowest_50 rfl rfl ?_
        refine ex_lload dX9_lowest_51 rfl rfl ?_
        refine ex_ldiv (z := lN (s / Nat.gcd h s)) dX9_lowest_53 rfl (lN_n0 hg (by omega)) (pk_lDiv (by omega) hg (by omega)) ?_
        exact ex_lret dX9_lowest_54 rfl (by unfold od; first | rw [if_neg hq0] | rw [if_pos hq0]) rfl
      · have hq0 : q = 0 := (nI_eq (b := 0) (by omega) (by decide)).mp (Decidable.not_not.mp h43)
        refine ex_lload_n dX9_lowest_46 rfl rfl ?_
        refine ex_goto (q := 51) dX9_lowest_47 rfl ?_
        refine ex_lload dX9_lowest_51 rfl rfl ?_
        refine ex_ldiv (z := lN (h / Nat.gcd h s)) dX9_lowest_53 rfl (lN_n0 hg (by omega)) (pk_lDiv (by omega) hg (by omega)) ?_
        exact ex_lret dX9_lowest_54 rfl (by unfold od; first | rw [if_neg hq0] | rw [if_pos hq0]) rfl
    · have hm := Nat.mod_lt a (show 0 < b by omega)
      refine ex_lload dX9_lowest_16 rfl rfl ?_
      refine ex_lconst (x := 0) dX9_lowest_18 rfl rfl ?_
      refine ex_lcmp (z := lg_cmp (lN b) 0) dX9_lowest_19 rfl rfl ?_
      refine ex_if_eq (q := 41) (q2 := 23) dX9_lowest_20 rfl rfl (fun hh => absurd hh (fun zz => absurd ((pk_lEQ (a := b) (b := 0) (by omega) (by decide)).mp ((lg_cmp_eq _ _).mp zz)) c1)) (fun _ => ?_)
      refine ex_lload dX9_lowest_23 rfl rfl ?_
      refine ex_lload dX9_lowest_25 rfl rfl ?_
      refine ex_lrem (z := lN (a % b)) dX9_lowest_27 rfl (lN_n0 (by omega) (by omega)) (pk_lRem (by omega) (by omega) (by omega)) ?_
      refine ex_lstore (ls' := [some (.long (lN h)), none, some (.long (lN s)), none, some (.int (nI q)), some (.long (lN a)), none, some (.long (lN b)), none, some (.long (lN (a % b))), none]) dX9_lowest_28 rfl (Nat.le_of_ble_eq_true rfl) rfl rfl ?_
      refine ex_lload dX9_lowest_30 rfl rfl ?_
      refine ex_lstore (ls' := [some (.long (lN h)), none, some (.long (lN s)), none, some (.int (nI q)), some (.long (lN b)), none, some (.long (lN b)), none, some (.long (lN (a % b))), none]) dX9_lowest_32 rfl (Nat.le_of_ble_eq_true rfl) rfl rfl ?_
      refine ex_lload dX9_lowest_34 rfl rfl ?_
      refine ex_lstore (ls' := [some (.long (lN h)), none, some (.long (lN s)), none, some (.int (nI q)), some (.long (lN b)), none, some (.long (lN (a % b))), none, some (.long (lN (a % b))), none]) dX9_lowest_36 rfl (Nat.le_of_ble_eq_true rfl) rfl rfl ?_
      refine ex_goto (q := 16) dX9_lowest_38 rfl ?_
      exact ih b (a % b) (some (.long (lN (a % b)))) (by omega) (by omega) (by omega) (by rw [gcd_s]; exact he)

set_option maxHeartbeats 2000000 in
theorem k_lowest {lay : List qm_LE} (σ : qm_St) {h s q : Nat} (hh : h < 41) (hs : s < 41) (hq : q ≤ 1) (h0 : 0 < s) (hle : h ≤ s) : Ok lay 0 mX9_lowest [.long (lN h), .long (lN s), .int (nI q)] σ (some (.long (lN (od h s q)))) σ := by
  have hg := (cv_dec s hs h0 h hh hle).2.1
  refine Ok.of (ls := [some (.long (lN h)), none, some (.long (lN s)), none, some (.int (nI q)), none, none, none, none, none, none]) (Nat.le_of_ble_eq_true rfl) rfl ?_
  by_cases c1 : h = 0
  · subst c1
    refine ex_lload_n dX9_lowest_0 rfl rfl ?_
    refine ex_lconst (x := 0) dX9_lowest_1 rfl rfl ?_
    refine ex_lcmp (z := lg_cmp (lN 0) 0) dX9_lowest_2 rfl rfl ?_
    refine ex_if_ne (q := 10) (q2 := 6) dX9_lowest_3 rfl rfl (fun hh => absurd hh (by decide)) (fun _ => ?_)
    refine ex_iload dX9_lowest_6 rfl rfl ?_
    refine ex_i2l (z := lN q) dX9_lowest_8 rfl (nI_l (by omega)) ?_
    exact ex_lret dX9_lowest_9 rfl (by rw [show od 0 s q = q by unfold od; rw [Nat.gcd_zero_left]; (rcases (show q = 0 ∨ q = 1 by omega) with e | e); (subst e; rw [if_pos rfl]; exact Nat.zero_div s); (subst e; rw [if_neg (by decide)]; exact Nat.div_self h0)]) rfl
  · skip
    refine ex_lload_n dX9_lowest_0 rfl rfl ?_
    refine ex_lconst (x := 0) dX9_lowest_1 rfl rfl ?_
    refine ex_lcmp (z := lg_cmp (lN h) 0) dX9_lowest_2 rfl rfl ?_
    refine ex_if_ne (q := 10) (q2 := 6) dX9_lowest_3 rfl rfl (fun _ => ?_) (fun hh => absurd (fun zz => absurd ((pk_lEQ (a := h) (b := 0) (by omega) (by decide)).mp ((lg_cmp_eq _ _).mp zz)) c1) hh)
    refine ex_lload_n dX9_lowest_10 rfl rfl ?_
    refine ex_lstore (ls' := [some (.long (lN h)), none, some (.long (lN s)), none, some (.int (nI q)), some (.long (lN h)), none, none, none, none, none]) dX9_lowest_11 rfl (Nat.le_of_ble_eq_true rfl) rfl rfl ?_
    refine ex_lload_n dX9_lowest_13 rfl rfl ?_
    refine ex_lstore (ls' := [some (.long (lN h)), none, some (.long (lN s)), none, some (.int (nI q)), some (.long (lN h)), none, some (.long (lN s)), none, none, none]) dX9_lowest_14 rfl (Nat.le_of_ble_eq_true rfl) rfl rfl ?_
    exact l_lowest σ (by omega) (by omega) hq hg (s + 1) h s none (by omega) (by omega) (by omega) rfl

set_option maxHeartbeats 2000000 in
theorem l_oddsC {T : tn_T} {X : gx_T} {P : gt_T} {Im : gi_T} {S : gs_T} (hG : gg_ok (T, X, P, Im, S)) {s n m q : Nat} (hs : s < 100000) (hn : n ≤ 40) (hn0 : 0 < n) (hm : m ≤ 7) (hq : q ≤ 1) : ∀ (r k : Nat) (σ : qm_St), k + r = n → CG σ (T, X, P, Im, S) → ∃ σ', Ex qm_lay 100 mX8_odds 49 [some (.ref 54), some (.int (nI s)), some (.int (nI n)), some (.int (nI m)), some (.int (nI q)), some (.int (nI (hd T s m k))), some (.int (nI k))] [] σ (some (.long (lN (od (hd T s m n) n q)))) σ' ∧ CG σ' (T, X, P, Im, S) ∧ sm σ σ' 0 27 0 42 := by
  intro r
  induction r with
  | zero =>
    intro k σ hk hC
    have hT : tn_ok T := hG.1
    have hX : gx_ok X := hG.2.1
    have hP : gt_ok P := hG.2.2.1
    have hI : gi_ok T (gx_n X) Im := hG.2.2.2.1
    have hS : gs_ok S := hG.2.2.2.2.1
    have hw : tn_w T < gx_n X := hG.2.2.2.2.2
    have hL := hT.1
    have hw6 := hT.2.1
    have hu := tn_u_lt hT
    have hX6 := hX.2.1
    have hP6 := hP.1
    have hkn : k = n := by omega
    subst hkn
    have hh := hd_le T s m k
    obtain ⟨g1, g2, g3⟩ := cv_dec k (by omega) hn0 (hd T s m k) (by omega) hh
    refine ⟨σ, ?_, hC, sm.rf _ _ _ _ _⟩
    refine ex_iload dX8_odds_49 rfl rfl ?_
    refine ex_iload_n dX8_odds_51 rfl rfl ?_
    refine ex_icmp_ge (q := 83) (q2 := 55) dX8_odds_52 rfl rfl (fun _ => ?_) (fun hh => absurd (nI_le (a := k) (b := k) (by omega) (by omega)) hh)
    refine ex_iload dX8_odds_83 rfl rfl ?_
    refine ex_iload_n dX8_odds_85 rfl rfl ?_
    refine ex_callS (rest := []) dX8_odds_86 rfl qp_7_282 rfl rfl rfl (Nat.le_of_ble_eq_true rfl) ((c_commonDivisor σ (by omega) (by omega)).eq (by rw [g1]) rfl) (Nat.le_of_ble_eq_true rfl) ?_
    show Ex qm_lay _ mX8_odds 89 [some (.ref 54), some (.int (nI s)), some (.int (nI k)), some (.int (nI m)), some (.int (nI q)), some (.int (nI (hd T s m k))), some (.int (nI k))] [.int (nI (Nat.gcd (hd T s m k) k))] σ _ _
    refine ex_istore (ls' := [some (.ref 54), some (.int (nI s)), some (.int (nI k)), some (.int (nI m)), some (.int (nI q)), some (.int (nI (hd T s m k))), some (.int (nI (Nat.gcd (hd T s m k) k)))]) dX8_odds_89 rfl (Nat.le_of_ble_eq_true rfl) rfl rfl ?_
    refine ex_iload dX8_odds_91 rfl rfl ?_
    refine ex_if_ne (q := 101) (q2 := 96) dX8_odds_93 rfl rfl (fun h93 => ?_) (fun h93 => ?_)
    · have hq0 : ¬ q = 0 := fun z => h93 (congrArg nI z)
      refine ex_iload_n dX8_odds_101 rfl rfl ?_
      refine ex_iload dX8_odds_102 rfl rfl ?_
      refine ex_idiv (z := nI (k / Nat.gcd (hd T s m k) k)) dX8_odds_104 rfl (fun zz => absurd ((nI_eq (b := 0) (by omega) (by decide)).mp zz) (by omega)) (pk_div (by omega) g2 (by omega)) ?_
      refine ex_i2l (z := lN (k / Nat.gcd (hd T s m k) k)) dX8_odds_105 rfl (nI_l (Nat.lt_of_le_of_lt (Nat.div_le_self _ _) (by omega))) ?_
      exact ex_lret dX8_odds_106 rfl (by unfold od; first | rw [if_neg hq0] | rw [if_pos hq0]) rfl
    · have hq0 : q = 0 := (nI_eq (b := 0) (by omega) (by decide)).mp (Decidable.not_not.mp h93)
      refine ex_iload dX8_odds_96 rfl rfl ?_
      refine ex_goto (q := 102) dX8_odds_98 rfl ?_
      refine ex_iload dX8_odds_102 rfl rfl ?_
      refine ex_idiv (z := nI ((hd T s m k) / Nat.gcd (hd T s m k) k)) dX8_odds_104 rfl (fun zz => absurd ((nI_eq (b := 0) (by omega) (by decide)).mp zz) (by omega)) (pk_div (by omega) g2 (by omega)) ?_
      refine ex_i2l (z := lN ((hd T s m k) / Nat.gcd (hd T s m k) k)) dX8_odds_105 rfl (nI_l (Nat.lt_of_le_of_lt (Nat.div_le_self _ _) (by omega))) ?_
      exact ex_lret dX8_odds_106 rfl (by unfold od; first | rw [if_neg hq0] | rw [if_pos hq0]) rfl
  | succ r ih =>
    intro k σ hk hC
    have hT : tn_ok T := hG.1
    have hX : gx_ok X := hG.2.1
    have hP : gt_ok P := hG.2.2.1
    have hI : gi_ok T (gx_n X) Im := hG.2.2.2.1
    have hS : gs_ok S := hG.2.2.2.2.1
    have hw : tn_w T < gx_n X := hG.2.2.2.2.2
    have hL := hT.1
    have hw6 := hT.2.1
    have hu := tn_u_lt hT
    have hX6 := hX.2.1
    have hP6 := hP.1
    have h : TR σ 9 18 T := hC.1
    obtain ⟨σ1, hO, hs1⟩ := c_coloursDrawn hT h (s := s + k) (by omega)
    obtain ⟨σ2, hE, hC2, hs2⟩ := ih (k + 1) σ1 (by omega) (CG.think hG hC hs1)
    refine ⟨σ2, ?_, hC2, (hs1.wid (by omega) (by omega)).tr hs2⟩
    have hcd : cd T (s + k) ≤ 12 := tn_pk_le _ 12
    have e1 : hd T s m (k + 1) = hd T s m k + (if cd T (s + k) ≤ m then 1 else 0) := rfl
    have hh := hd_le T s m k
    by_cases c1 : cd T (s + k) ≤ m
    · rw [e1, if_pos c1] at hE
      refine ex_iload dX8_odds_49 rfl rfl ?_
      refine ex_iload_n dX8_odds_51 rfl rfl ?_
      refine ex_icmp_ge (q := 83) (q2 := 55) dX8_odds_52 rfl rfl (fun hh => absurd hh (nI_ge (a := k) (b := n) (by omega) (by omega))) (fun _ => ?_)
      refine ex_iload dX8_odds_55 rfl rfl ?_
      refine ex_aload_n dX8_odds_57 rfl rfl ?_
      refine ex_iload_n dX8_odds_58 rfl rfl ?_
      refine ex_iload dX8_odds_59 rfl rfl ?_
      refine ex_iadd (z := nI (s + k)) dX8_odds_61 rfl (nI_add s k) ?_
      refine ex_callV (a := 54) (rest := [.int (nI (hd T s m k))]) dX8_odds_62 rfl qp_7_266 rfl rfl rfl rfl rfl (Nat.le_of_ble_eq_true rfl) (hO) (Nat.le_of_ble_eq_true rfl) ?_
      show Ex qm_lay _ mX8_odds 65 [some (.ref 54), some (.int (nI s)), some (.int (nI n)), some (.int (nI m)), some (.int (nI q)), some (.int (nI (hd T s m k))), some (.int (nI k))] [.int (nI (cd T (s + k))), .int (nI (hd T s m k))] σ1 _ _
      refine ex_iload_n dX8_odds_65 rfl rfl ?_
      refine ex_icmp_gt (q := 73) (q2 := 69) dX8_odds_66 rfl rfl (fun hh => absurd hh (nI_nlt (a := m) (b := (cd T (s + k))) (by omega) (by omega))) (fun _ => ?_)
      refine ex_iconst (x := 1) dX8_odds_69 rfl rfl ?_
      refine ex_goto (q := 74) dX8_odds_70 rfl ?_
      refine ex_iadd (z := nI ((hd T s m k) + 1)) dX8_odds_74 rfl (nI_add (hd T s m k) 1) ?_
      refine ex_istore (ls' := [some (.ref 54), some (.int (nI s)), some (.int (nI n)), some (.int (nI m)), some (.int (nI q)), some (.int (nI ((hd T s m k) + 1))), some (.int (nI k))]) dX8_odds_75 rfl (Nat.le_of_ble_eq_true rfl) rfl rfl ?_
      refine ex_iinc (y := nI (k + 1)) (ls' := [some (.ref 54), some (.int (nI s)), some (.int (nI n)), some (.int (nI m)), some (.int (nI q)), some (.int (nI ((hd T s m k) + 1))), some (.int (nI (k + 1)))]) dX8_odds_77 rfl rfl rfl (nI_add k 1) rfl ?_
      refine ex_goto (q := 49) dX8_odds_80 rfl ?_
      exact hE
    · rw [e1, if_neg c1] at hE
      refine ex_iload dX8_odds_49 rfl rfl ?_
      refine ex_iload_n dX8_odds_51 rfl rfl ?_
      refine ex_icmp_ge (q := 83) (q2 := 55) dX8_odds_52 rfl rfl (fun hh => absurd hh (nI_ge (a := k) (b := n) (by omega) (by omega))) (fun _ => ?_)
      refine ex_iload dX8_odds_55 rfl rfl ?_
      refine ex_aload_n dX8_odds_57 rfl rfl ?_
      refine ex_iload_n dX8_odds_58 rfl rfl ?_
      refine ex_iload dX8_odds_59 rfl rfl ?_
      refine ex_iadd (z := nI (s + k)) dX8_odds_61 rfl (nI_add s k) ?_
      refine ex_callV (a := 54) (rest := [.int (nI (hd T s m k))]) dX8_odds_62 rfl qp_7_266 rfl rfl rfl rfl rfl (Nat.le_of_ble_eq_true rfl) (hO) (Nat.le_of_ble_eq_true rfl) ?_
      show Ex qm_lay _ mX8_odds 65 [some (.ref 54), some (.int (nI s)), some (.int (nI n)), some (.int (nI m)), some (.int (nI q)), some (.int (nI (hd T s m k))), some (.int (nI k))] [.int (nI (cd T (s + k))), .int (nI (hd T s m k))] σ1 _ _
      refine ex_iload_n dX8_odds_65 rfl rfl ?_
      refine ex_icmp_gt (q := 73) (q2 := 69) dX8_odds_66 rfl rfl (fun _ => ?_) (fun hh => absurd (nI_lt (a := m) (b := (cd T (s + k))) (by omega) (by omega)) hh)
      refine ex_iconst (x := 0) dX8_odds_73 rfl rfl ?_
      refine ex_iadd (z := nI ((hd T s m k) + 0)) dX8_odds_74 rfl (nI_add (hd T s m k) 0) ?_
      refine ex_istore (ls' := [some (.ref 54), some (.int (nI s)), some (.int (nI n)), some (.int (nI m)), some (.int (nI q)), some (.int (nI ((hd T s m k) + 0))), some (.int (nI k))]) dX8_odds_75 rfl (Nat.le_of_ble_eq_true rfl) rfl rfl ?_
      refine ex_iinc (y := nI (k + 1)) (ls' := [some (.ref 54), some (.int (nI s)), some (.int (nI n)), some (.int (nI m)), some (.int (nI q)), some (.int (nI ((hd T s m k) + 0))), some (.int (nI (k + 1)))]) dX8_odds_77 rfl rfl rfl (nI_add k 1) rfl ?_
      refine ex_goto (q := 49) dX8_odds_80 rfl ?_
      exact hE

set_option maxHeartbeats 2000000 in
theorem l_oddsM {T : tn_T} {X : gx_T} {P : gt_T} {Im : gi_T} {S : gs_T} (hG : gg_ok (T, X, P, Im, S)) {s n m q : Nat} (hs : s < 100000) (hn : n ≤ 40) (hn0 : 0 < n) (hm : m ≤ 7) (hq : q ≤ 1) : ∀ (r k : Nat) (σ : qm_St), k + r = n → MG σ (T, X, P, Im, S) → ∃ σ', Ex qm_lay 100 mX9_odds 51 [some (.ref 55), some (.int (nI s)), some (.int (nI n)), some (.int (nI m)), some (.int (nI q)), some (.long (lN (hd T s m k))), none, some (.int (nI k))] [] σ (some (.long (lN (od (hd T s m n) n q)))) σ' ∧ MG σ' (T, X, P, Im, S) ∧ sm σ σ' 27 46 42 62 := by
  intro r
  induction r with
  | zero =>
    intro k σ hk hM
    have hT : tn_ok T := hG.1
    have hX : gx_ok X := hG.2.1
    have hP : gt_ok P := hG.2.2.1
    have hI : gi_ok T (gx_n X) Im := hG.2.2.2.1
    have hS : gs_ok S := hG.2.2.2.2.1
    have hw : tn_w T < gx_n X := hG.2.2.2.2.2
    have hL := hT.1
    have hw6 := hT.2.1
    have hu := tn_u_lt hT
    have hX6 := hX.2.1
    have hP6 := hP.1
    have hkn : k = n := by omega
    subst hkn
    have hh := hd_le T s m k
    refine ⟨σ, ?_, hM, sm.rf _ _ _ _ _⟩
    refine ex_iload dX9_odds_51 rfl rfl ?_
    refine ex_iload_n dX9_odds_53 rfl rfl ?_
    refine ex_icmp_ge (q := 85) (q2 := 57) dX9_odds_54 rfl rfl (fun _ => ?_) (fun hh => absurd (nI_le (a := k) (b := k) (by omega) (by omega)) hh)
    refine ex_lload dX9_odds_85 rfl rfl ?_
    refine ex_iload_n dX9_odds_87 rfl rfl ?_
    refine ex_i2l (z := lN k) dX9_odds_88 rfl (nI_l (by omega)) ?_
    refine ex_iload dX9_odds_89 rfl rfl ?_
    refine ex_callS (rest := []) dX9_odds_91 rfl qp_8_306 rfl rfl rfl (Nat.le_of_ble_eq_true rfl) (k_lowest σ (by omega) (by omega) hq hn0 hh) (Nat.le_of_ble_eq_true rfl) ?_
    show Ex qm_lay _ mX9_odds 94 [some (.ref 55), some (.int (nI s)), some (.int (nI k)), some (.int (nI m)), some (.int (nI q)), some (.long (lN (hd T s m k))), none, some (.int (nI k))] [.long (lN (od (hd T s m k) k q))] σ _ _
    exact ex_lret dX9_odds_94 rfl rfl rfl
  | succ r ih =>
    intro k σ hk hM
    have hT : tn_ok T := hG.1
    have hX : gx_ok X := hG.2.1
    have hP : gt_ok P := hG.2.2.1
    have hI : gi_ok T (gx_n X) Im := hG.2.2.2.1
    have hS : gs_ok S := hG.2.2.2.2.1
    have hw : tn_w T < gx_n X := hG.2.2.2.2.2
    have hL := hT.1
    have hw6 := hT.2.1
    have hu := tn_u_lt hT
    have hX6 := hX.2.1
    have hP6 := hP.1
    have h : MR σ T := hM.1
    obtain ⟨σ1, hO, hR, hs1⟩ := k_manyBy hT h (s := s + k) (by omega)
    obtain ⟨σ2, hE, hM2, hs2⟩ := ih (k + 1) σ1 (by omega) (MG.thinkL (G := (T, X, P, Im, S)) hM hR ⟨fun s hs => hs1.1 s (by omega), fun r hr hr2 k => hs1.2 r (by omega) (by omega) k⟩)
    refine ⟨σ2, ?_, hM2, (hs1.sm (by omega) (by omega) (by omega)).tr hs2⟩
    have hcd : cd T (s + k) ≤ 12 := tn_pk_le _ 12
    have e1 : hd T s m (k + 1) = hd T s m k + (if cd T (s + k) ≤ m then 1 else 0) := rfl
    have hh := hd_le T s m k
    by_cases c1 : cd T (s + k) ≤ m
    · rw [e1, if_pos c1] at hE
      refine ex_iload dX9_odds_51 rfl rfl ?_
      refine ex_iload_n dX9_odds_53 rfl rfl ?_
      refine ex_icmp_ge (q := 85) (q2 := 57) dX9_odds_54 rfl rfl (fun hh => absurd hh (nI_ge (a := k) (b := n) (by omega) (by omega))) (fun _ => ?_)
      refine ex_lload dX9_odds_57 rfl rfl ?_
      refine ex_aload_n dX9_odds_59 rfl rfl ?_
      refine ex_iload_n dX9_odds_60 rfl rfl ?_
      refine ex_iload dX9_odds_61 rfl rfl ?_
      refine ex_iadd (z := nI (s + k)) dX9_odds_63 rfl (nI_add s k) ?_
      refine ex_callV (a := 55) (rest := [.long (lN (hd T s m k))]) dX9_odds_64 rfl qp_8_301 rfl rfl rfl rfl rfl (Nat.le_of_ble_eq_true rfl) (hO) (Nat.le_of_ble_eq_true rfl) ?_
      show Ex qm_lay _ mX9_odds 67 [some (.ref 55), some (.int (nI s)), some (.int (nI n)), some (.int (nI m)), some (.int (nI q)), some (.long (lN (hd T s m k))), none, some (.int (nI k))] [.int (nI (cd T (s + k))), .long (lN (hd T s m k))] σ1 _ _
      refine ex_iload_n dX9_odds_67 rfl rfl ?_
      refine ex_icmp_gt (q := 75) (q2 := 71) dX9_odds_68 rfl rfl (fun hh => absurd hh (nI_nlt (a := m) (b := (cd T (s + k))) (by omega) (by omega))) (fun _ => ?_)
      refine ex_lconst (x := 1) dX9_odds_71 rfl rfl ?_
      refine ex_goto (q := 76) dX9_odds_72 rfl ?_
      refine ex_ladd (z := lN (hd T s m k + 1)) dX9_odds_76 rfl (lN_add _ 1) ?_
      refine ex_lstore (ls' := [some (.ref 55), some (.int (nI s)), some (.int (nI n)), some (.int (nI m)), some (.int (nI q)), some (.long (lN (hd T s m k + 1))), none, some (.int (nI k))]) dX9_odds_77 rfl (Nat.le_of_ble_eq_true rfl) rfl rfl ?_
      refine ex_iinc (y := nI (k + 1)) (ls' := [some (.ref 55), some (.int (nI s)), some (.int (nI n)), some (.int (nI m)), some (.int (nI q)), some (.long (lN (hd T s m k + 1))), none, some (.int (nI (k + 1)))]) dX9_odds_79 rfl rfl rfl (nI_add k 1) rfl ?_
      refine ex_goto (q := 51) dX9_odds_82 rfl ?_
      exact hE
    · rw [e1, if_neg c1] at hE
      refine ex_iload dX9_odds_51 rfl rfl ?_
      refine ex_iload_n dX9_odds_53 rfl rfl ?_
      refine ex_icmp_ge (q := 85) (q2 := 57) dX9_odds_54 rfl rfl (fun hh => absurd hh (nI_ge (a := k) (b := n) (by omega) (by omega))) (fun _ => ?_)
      refine ex_lload dX9_odds_57 rfl rfl ?_
      refine ex_aload_n dX9_odds_59 rfl rfl ?_
      refine ex_iload_n dX9_odds_60 rfl rfl ?_
      refine ex_iload dX9_odds_61 rfl rfl ?_
      refine ex_iadd (z := nI (s + k)) dX9_odds_63 rfl (nI_add s k) ?_
      refine ex_callV (a := 55) (rest := [.long (lN (hd T s m k))]) dX9_odds_64 rfl qp_8_301 rfl rfl rfl rfl rfl (Nat.le_of_ble_eq_true rfl) (hO) (Nat.le_of_ble_eq_true rfl) ?_
      show Ex qm_lay _ mX9_odds 67 [some (.ref 55), some (.int (nI s)), some (.int (nI n)), some (.int (nI m)), some (.int (nI q)), some (.long (lN (hd T s m k))), none, some (.int (nI k))] [.int (nI (cd T (s + k))), .long (lN (hd T s m k))] σ1 _ _
      refine ex_iload_n dX9_odds_67 rfl rfl ?_
      refine ex_icmp_gt (q := 75) (q2 := 71) dX9_odds_68 rfl rfl (fun _ => ?_) (fun hh => absurd (nI_lt (a := m) (b := (cd T (s + k))) (by omega) (by omega)) hh)
      refine ex_lconst (x := 0) dX9_odds_75 rfl rfl ?_
      refine ex_ladd (z := lN (hd T s m k + 0)) dX9_odds_76 rfl (lN_add _ 0) ?_
      refine ex_lstore (ls' := [some (.ref 55), some (.int (nI s)), some (.int (nI n)), some (.int (nI m)), some (.int (nI q)), some (.long (lN (hd T s m k + 0))), none, some (.int (nI k))]) dX9_odds_77 rfl (Nat.le_of_ble_eq_true rfl) rfl rfl ?_
      refine ex_iinc (y := nI (k + 1)) (ls' := [some (.ref 55), some (.int (nI s)), some (.int (nI n)), some (.int (nI m)), some (.int (nI q)), some (.long (lN (hd T s m k + 0))), none, some (.int (nI (k + 1)))]) dX9_odds_79 rfl rfl rfl (nI_add k 1) rfl ?_
      refine ex_goto (q := 51) dX9_odds_82 rfl ?_
      exact hE

set_option maxHeartbeats 2000000 in
theorem j_odds {T : tn_T} {X : gx_T} {P : gt_T} {Im : gi_T} {S : gs_T} (hG : gg_ok (T, X, P, Im, S)) (s n m q : Int32) : J mX8_odds mX9_odds [.int s, .int n, .int m, .int q] (T, X, P, Im, S) := by
  have hT : tn_ok T := hG.1
  have hX : gx_ok X := hG.2.1
  have hP : gt_ok P := hG.2.2.1
  have hI : gi_ok T (gx_n X) Im := hG.2.2.2.1
  have hS : gs_ok S := hG.2.2.2.2.1
  have hw : tn_w T < gx_n X := hG.2.2.2.2.2
  have hL := hT.1
  have hw6 := hT.2.1
  have hu := tn_u_lt hT
  have hX6 := hX.2.1
  have hP6 := hP.1
  by_cases c1 : tn_in s 0 99999 = true ∧ tn_in n 1 40 = true ∧ tn_in m 0 7 = true ∧ tn_in q 0 1 = true
  · obtain ⟨c1, c2, c3, c4⟩ := c1
    obtain ⟨s, hs, rfl⟩ := tn_in_of (n := 99999) (by decide) c1
    have c20 : tn_in n 0 40 = true := decide_eq_true ⟨Int32.le_trans (by decide) (of_decide_eq_true c2).1, (of_decide_eq_true c2).2⟩
    obtain ⟨n, hn, rfl⟩ := tn_in_of (n := 40) (by decide) c20
    have hn0 : 1 ≤ n := (nI_leI (a := 1) (b := n) (by decide) (by omega)).mp (of_decide_eq_true c2).1
    obtain ⟨m, hm, rfl⟩ := tn_in_of (n := 7) (by decide) c3
    obtain ⟨q, hq, rfl⟩ := tn_in_of (n := 1) (by decide) c4
    refine J.u (.long (lN (od (hd T s m n) n q))) (T, X, P, Im, S) hG (fun σ hC => ?_) (fun σ hM => ?_)
    · have h : TR σ 9 18 T := hC.1
      obtain ⟨σ', hE, hC2, hs2⟩ := l_oddsC hG (s := s) (n := n) (m := m) (q := q) (by omega) hn hn0 hm hq n 0 σ (by omega) hC
      refine ⟨σ', ?_, hC2, hs2⟩
      refine Ok.of (ls := [some (.ref 54), some (.int (nI s)), some (.int (nI n)), some (.int (nI m)), some (.int (nI q)), none, none]) (Nat.le_of_ble_eq_true rfl) rfl ?_
      refine ex_iload_n dX8_odds_0 rfl rfl ?_
      refine ex_callS (rest := []) dX8_odds_1 rfl qp_7_263 rfl rfl rfl (Nat.le_of_ble_eq_true rfl) (c_isSeed _ _) (Nat.le_of_ble_eq_true rfl) ?_
      show Ex qm_lay _ mX8_odds 4 [some (.ref 54), some (.int (nI s)), some (.int (nI n)), some (.int (nI m)), some (.int (nI q)), none, none] [.int (b2i (tn_in (nI s) 0 99999))] σ _ _
      refine ex_if_eq (q := 39) (q2 := 7) dX8_odds_4 rfl rfl (fun hh => absurd hh (b2i_n0.mpr (c1))) (fun _ => ?_)
      refine ex_iload_n dX8_odds_7 rfl rfl ?_
      refine ex_iconst (x := 1) dX8_odds_8 rfl rfl ?_
      refine ex_icmp_lt (q := 39) (q2 := 12) dX8_odds_9 rfl rfl (fun hh => absurd hh (nI_nlt (a := n) (b := 1) (by omega) (by omega))) (fun _ => ?_)
      refine ex_iload_n dX8_odds_12 rfl rfl ?_
      refine ex_bipush (x := 40) dX8_odds_13 rfl rfl ?_
      refine ex_icmp_gt (q := 39) (q2 := 18) dX8_odds_15 rfl rfl (fun hh => absurd hh (nI_nlt (a := 40) (b := n) (by omega) (by omega))) (fun _ => ?_)
      refine ex_iload_n dX8_odds_18 rfl rfl ?_
      refine ex_if_lt (q := 39) (q2 := 22) dX8_odds_19 rfl rfl (fun hh => absurd hh (nI_pos (by omega))) (fun _ => ?_)
      refine ex_iload_n dX8_odds_22 rfl rfl ?_
      refine ex_bipush (x := 7) dX8_odds_23 rfl rfl ?_
      refine ex_icmp_gt (q := 39) (q2 := 28) dX8_odds_25 rfl rfl (fun hh => absurd hh (nI_nlt (a := 7) (b := m) (by omega) (by omega))) (fun _ => ?_)
      refine ex_iload dX8_odds_28 rfl rfl ?_
      refine ex_if_lt (q := 39) (q2 := 33) dX8_odds_30 rfl rfl (fun hh => absurd hh (nI_pos (by omega))) (fun _ => ?_)
      refine ex_iload dX8_odds_33 rfl rfl ?_
      refine ex_iconst (x := 1) dX8_odds_35 rfl rfl ?_
      refine ex_icmp_le (q := 43) (q2 := 39) dX8_odds_36 rfl rfl (fun _ => ?_) (fun hh => absurd (nI_le (a := q) (b := 1) (by omega) (by omega)) hh)
      refine ex_iconst (x := 0) dX8_odds_43 rfl rfl ?_
      refine ex_istore (ls' := [some (.ref 54), some (.int (nI s)), some (.int (nI n)), some (.int (nI m)), some (.int (nI q)), some (.int 0), none]) dX8_odds_44 rfl (Nat.le_of_ble_eq_true rfl) rfl rfl ?_
      refine ex_iconst (x := 0) dX8_odds_46 rfl rfl ?_
      refine ex_istore (ls' := [some (.ref 54), some (.int (nI s)), some (.int (nI n)), some (.int (nI m)), some (.int (nI q)), some (.int 0), some (.int 0)]) dX8_odds_47 rfl (Nat.le_of_ble_eq_true rfl) rfl rfl ?_
      exact hE
    · have h : MR σ T := hM.1
      obtain ⟨σ', hE, hM2, hs2⟩ := l_oddsM hG (s := s) (n := n) (m := m) (q := q) (by omega) hn hn0 hm hq n 0 σ (by omega) hM
      refine ⟨σ', ?_, hM2, hs2⟩
      refine Ok.of (ls := [some (.ref 55), some (.int (nI s)), some (.int (nI n)), some (.int (nI m)), some (.int (nI q)), none, none, none]) (Nat.le_of_ble_eq_true rfl) rfl ?_
      refine ex_iload_n dX9_odds_0 rfl rfl ?_
      refine ex_iconst (x := 0) dX9_odds_1 rfl rfl ?_
      refine ex_ldc_w (x := 99999) dX9_odds_2 rfl qp_8_300 ?_
      refine ex_callS (rest := []) dX9_odds_5 rfl qp_8_81 rfl rfl rfl (Nat.le_of_ble_eq_true rfl) (k_in _ _ _ _) (Nat.le_of_ble_eq_true rfl) ?_
      show Ex qm_lay _ mX9_odds 8 [some (.ref 55), some (.int (nI s)), some (.int (nI n)), some (.int (nI m)), some (.int (nI q)), none, none, none] [.int (b2i (tn_in (nI s) 0 99999))] σ _ _
      refine ex_if_eq (q := 41) (q2 := 11) dX9_odds_8 rfl rfl (fun hh => absurd hh (b2i_n0.mpr (c1))) (fun _ => ?_)
      refine ex_iload_n dX9_odds_11 rfl rfl ?_
      refine ex_iconst (x := 1) dX9_odds_12 rfl rfl ?_
      refine ex_bipush (x := 40) dX9_odds_13 rfl rfl ?_
      refine ex_callS (rest := []) dX9_odds_15 rfl qp_8_81 rfl rfl rfl (Nat.le_of_ble_eq_true rfl) (k_in _ _ _ _) (Nat.le_of_ble_eq_true rfl) ?_
      show Ex qm_lay _ mX9_odds 18 [some (.ref 55), some (.int (nI s)), some (.int (nI n)), some (.int (nI m)), some (.int (nI q)), none, none, none] [.int (b2i (tn_in (nI n) 1 40))] σ _ _
      refine ex_if_eq (q := 41) (q2 := 21) dX9_odds_18 rfl rfl (fun hh => absurd hh (b2i_n0.mpr (c2))) (fun _ => ?_)
      refine ex_iload_n dX9_odds_21 rfl rfl ?_
      refine ex_iconst (x := 0) dX9_odds_22 rfl rfl ?_
      refine ex_bipush (x := 7) dX9_odds_23 rfl rfl ?_
      refine ex_callS (rest := []) dX9_odds_25 rfl qp_8_81 rfl rfl rfl (Nat.le_of_ble_eq_true rfl) (k_in _ _ _ _) (Nat.le_of_ble_eq_true rfl) ?_
      show Ex qm_lay _ mX9_odds 28 [some (.ref 55), some (.int (nI s)), some (.int (nI n)), some (.int (nI m)), some (.int (nI q)), none, none, none] [.int (b2i (tn_in (nI m) 0 7))] σ _ _
      refine ex_if_eq (q := 41) (q2 := 31) dX9_odds_28 rfl rfl (fun hh => absurd hh (b2i_n0.mpr (c3))) (fun _ => ?_)
      refine ex_iload dX9_odds_31 rfl rfl ?_
      refine ex_iconst (x := 0) dX9_odds_33 rfl rfl ?_
      refine ex_iconst (x := 1) dX9_odds_34 rfl rfl ?_
      refine ex_callS (rest := []) dX9_odds_35 rfl qp_8_81 rfl rfl rfl (Nat.le_of_ble_eq_true rfl) (k_in _ _ _ _) (Nat.le_of_ble_eq_true rfl) ?_
      show Ex qm_lay _ mX9_odds 38 [some (.ref 55), some (.int (nI s)), some (.int (nI n)), some (.int (nI m)), some (.int (nI q)), none, none, none] [.int (b2i (tn_in (nI q) 0 1))] σ _ _
      refine ex_if_ne (q := 45) (q2 := 41) dX9_odds_38 rfl rfl (fun _ => ?_) (fun hh => absurd (b2i_n0.mpr (c4)) hh)
      refine ex_lconst (x := 0) dX9_odds_45 rfl rfl ?_
      refine ex_lstore (ls' := [some (.ref 55), some (.int (nI s)), some (.int (nI n)), some (.int (nI m)), some (.int (nI q)), some (.long 0), none, none]) dX9_odds_46 rfl (Nat.le_of_ble_eq_true rfl) rfl rfl ?_
      refine ex_iconst (x := 0) dX9_odds_48 rfl rfl ?_
      refine ex_istore (ls' := [some (.ref 55), some (.int (nI s)), some (.int (nI n)), some (.int (nI m)), some (.int (nI q)), some (.long 0), none, some (.int 0)]) dX9_odds_49 rfl (Nat.le_of_ble_eq_true rfl) rfl rfl ?_
      exact hE
  · refine J.q hG (.long (-4611686018427387904)) (fun σ hC => ?_) (fun σ hM => ?_)
    · have h : TR σ 9 18 T := hC.1
      refine Ok.of (ls := [some (.ref 54), some (.int s), some (.int n), some (.int m), some (.int q), none, none]) (Nat.le_of_ble_eq_true rfl) rfl ?_
      refine ex_iload_n dX8_odds_0 rfl rfl ?_
      refine ex_callS (rest := []) dX8_odds_1 rfl qp_7_263 rfl rfl rfl (Nat.le_of_ble_eq_true rfl) (c_isSeed _ _) (Nat.le_of_ble_eq_true rfl) ?_
      show Ex qm_lay _ mX8_odds 4 [some (.ref 54), some (.int s), some (.int n), some (.int m), some (.int q), none, none] [.int (b2i (tn_in s 0 99999))] σ _ _
      refine ex_if_eq (q := 39) (q2 := 7) dX8_odds_4 rfl rfl (fun h4 => ?_) (fun h4 => ?_)
      · have hb4 : (tn_in s 0 99999) = false := b2i_0.mp h4
        refine ex_ldc2_w (x := (-4611686018427387904)) dX8_odds_39 rfl qp_7_280 ?_
        exact ex_lret dX8_odds_42 rfl rfl rfl
      · have hb4 : (tn_in s 0 99999) = true := b2i_n0.mp h4
        refine ex_iload_n dX8_odds_7 rfl rfl ?_
        refine ex_iconst (x := 1) dX8_odds_8 rfl rfl ?_
        refine ex_icmp_lt (q := 39) (q2 := 12) dX8_odds_9 rfl rfl (fun h9 => ?_) (fun h9 => ?_)
        · refine ex_ldc2_w (x := (-4611686018427387904)) dX8_odds_39 rfl qp_7_280 ?_
          exact ex_lret dX8_odds_42 rfl rfl rfl
        · refine ex_iload_n dX8_odds_12 rfl rfl ?_
          refine ex_bipush (x := 40) dX8_odds_13 rfl rfl ?_
          refine ex_icmp_gt (q := 39) (q2 := 18) dX8_odds_15 rfl rfl (fun h15 => ?_) (fun h15 => ?_)
          · refine ex_ldc2_w (x := (-4611686018427387904)) dX8_odds_39 rfl qp_7_280 ?_
            exact ex_lret dX8_odds_42 rfl rfl rfl
          · refine ex_iload_n dX8_odds_18 rfl rfl ?_
            refine ex_if_lt (q := 39) (q2 := 22) dX8_odds_19 rfl rfl (fun h19 => ?_) (fun h19 => ?_)
            · refine ex_ldc2_w (x := (-4611686018427387904)) dX8_odds_39 rfl qp_7_280 ?_
              exact ex_lret dX8_odds_42 rfl rfl rfl
            · refine ex_iload_n dX8_odds_22 rfl rfl ?_
              refine ex_bipush (x := 7) dX8_odds_23 rfl rfl ?_
              refine ex_icmp_gt (q := 39) (q2 := 28) dX8_odds_25 rfl rfl (fun h25 => ?_) (fun h25 => ?_)
              · refine ex_ldc2_w (x := (-4611686018427387904)) dX8_odds_39 rfl qp_7_280 ?_
                exact ex_lret dX8_odds_42 rfl rfl rfl
              · refine ex_iload dX8_odds_28 rfl rfl ?_
                refine ex_if_lt (q := 39) (q2 := 33) dX8_odds_30 rfl rfl (fun h30 => ?_) (fun h30 => ?_)
                · refine ex_ldc2_w (x := (-4611686018427387904)) dX8_odds_39 rfl qp_7_280 ?_
                  exact ex_lret dX8_odds_42 rfl rfl rfl
                · refine ex_iload dX8_odds_33 rfl rfl ?_
                  refine ex_iconst (x := 1) dX8_odds_35 rfl rfl ?_
                  refine ex_icmp_le (q := 43) (q2 := 39) dX8_odds_36 rfl rfl (fun h36 => ?_) (fun h36 => ?_)
                  · exact absurd ⟨hb4, decide_eq_true ⟨Int32.not_lt.mp h9, Int32.not_lt.mp h15⟩, decide_eq_true ⟨Int32.not_lt.mp h19, Int32.not_lt.mp h25⟩, decide_eq_true ⟨Int32.not_lt.mp h30, h36⟩⟩ c1
                  · refine ex_ldc2_w (x := (-4611686018427387904)) dX8_odds_39 rfl qp_7_280 ?_
                    exact ex_lret dX8_odds_42 rfl rfl rfl
    · have h : MR σ T := hM.1
      refine Ok.of (ls := [some (.ref 55), some (.int s), some (.int n), some (.int m), some (.int q), none, none, none]) (Nat.le_of_ble_eq_true rfl) rfl ?_
      refine ex_iload_n dX9_odds_0 rfl rfl ?_
      refine ex_iconst (x := 0) dX9_odds_1 rfl rfl ?_
      refine ex_ldc_w (x := 99999) dX9_odds_2 rfl qp_8_300 ?_
      refine ex_callS (rest := []) dX9_odds_5 rfl qp_8_81 rfl rfl rfl (Nat.le_of_ble_eq_true rfl) (k_in _ _ _ _) (Nat.le_of_ble_eq_true rfl) ?_
      show Ex qm_lay _ mX9_odds 8 [some (.ref 55), some (.int s), some (.int n), some (.int m), some (.int q), none, none, none] [.int (b2i (tn_in s 0 99999))] σ _ _
      refine ex_if_eq (q := 41) (q2 := 11) dX9_odds_8 rfl rfl (fun h8 => ?_) (fun h8 => ?_)
      · have hb8 : (tn_in s 0 99999) = false := b2i_0.mp h8
        refine ex_ldc2_w (x := (-4611686018427387904)) dX9_odds_41 rfl qp_8_304 ?_
        exact ex_lret dX9_odds_44 rfl rfl rfl
      · have hb8 : (tn_in s 0 99999) = true := b2i_n0.mp h8
        refine ex_iload_n dX9_odds_11 rfl rfl ?_
        refine ex_iconst (x := 1) dX9_odds_12 rfl rfl ?_
        refine ex_bipush (x := 40) dX9_odds_13 rfl rfl ?_
        refine ex_callS (rest := []) dX9_odds_15 rfl qp_8_81 rfl rfl rfl (Nat.le_of_ble_eq_true rfl) (k_in _ _ _ _) (Nat.le_of_ble_eq_true rfl) ?_
        show Ex qm_lay _ mX9_odds 18 [some (.ref 55), some (.int s), some (.int n), some (.int m), some (.int q), none, none, none] [.int (b2i (tn_in n 1 40))] σ _ _
        refine ex_if_eq (q := 41) (q2 := 21) dX9_odds_18 rfl rfl (fun h18 => ?_) (fun h18 => ?_)
        · have hb18 : (tn_in n 1 40) = false := b2i_0.mp h18
          refine ex_ldc2_w (x := (-4611686018427387904)) dX9_odds_41 rfl qp_8_304 ?_
          exact ex_lret dX9_odds_44 rfl rfl rfl
        · have hb18 : (tn_in n 1 40) = true := b2i_n0.mp h18
          refine ex_iload_n dX9_odds_21 rfl rfl ?_
          refine ex_iconst (x := 0) dX9_odds_22 rfl rfl ?_
          refine ex_bipush (x := 7) dX9_odds_23 rfl rfl ?_
          refine ex_callS (rest := []) dX9_odds_25 rfl qp_8_81 rfl rfl rfl (Nat.le_of_ble_eq_true rfl) (k_in _ _ _ _) (Nat.le_of_ble_eq_true rfl) ?_
          show Ex qm_lay _ mX9_odds 28 [some (.ref 55), some (.int s), some (.int n), some (.int m), some (.int q), none, none, none] [.int (b2i (tn_in m 0 7))] σ _ _
          refine ex_if_eq (q := 41) (q2 := 31) dX9_odds_28 rfl rfl (fun h28 => ?_) (fun h28 => ?_)
          · have hb28 : (tn_in m 0 7) = false := b2i_0.mp h28
            refine ex_ldc2_w (x := (-4611686018427387904)) dX9_odds_41 rfl qp_8_304 ?_
            exact ex_lret dX9_odds_44 rfl rfl rfl
          · have hb28 : (tn_in m 0 7) = true := b2i_n0.mp h28
            refine ex_iload dX9_odds_31 rfl rfl ?_
            refine ex_iconst (x := 0) dX9_odds_33 rfl rfl ?_
            refine ex_iconst (x := 1) dX9_odds_34 rfl rfl ?_
            refine ex_callS (rest := []) dX9_odds_35 rfl qp_8_81 rfl rfl rfl (Nat.le_of_ble_eq_true rfl) (k_in _ _ _ _) (Nat.le_of_ble_eq_true rfl) ?_
            show Ex qm_lay _ mX9_odds 38 [some (.ref 55), some (.int s), some (.int n), some (.int m), some (.int q), none, none, none] [.int (b2i (tn_in q 0 1))] σ _ _
            refine ex_if_ne (q := 45) (q2 := 41) dX9_odds_38 rfl rfl (fun h38 => ?_) (fun h38 => ?_)
            · have hb38 : (tn_in q 0 1) = true := b2i_n0.mp h38
              exact absurd ⟨hb8, hb18, hb28, hb38⟩ c1
            · have hb38 : (tn_in q 0 1) = false := b2i_0.mp (Decidable.not_not.mp h38)
              refine ex_ldc2_w (x := (-4611686018427387904)) dX9_odds_41 rfl qp_8_304 ?_
              exact ex_lret dX9_odds_44 rfl rfl rfl

