/-! ===== what the other side's town does ===== -/
def tn_in (v x y : Int32) : Bool := decide (x ≤ v ∧ v ≤ y)
theorem k_in {lay : List qm_LE} (σ : qm_St) (v x y : Int32) : Ok lay 0 mX9_in [.int v, .int x, .int y] σ (some (.int (b2i (tn_in v x y)))) σ := by
  refine Ok.of (ls := [some (.int v), some (.int x), some (.int y)]) (Nat.le_of_ble_eq_true rfl) rfl ?_
  refine ex_iload_n dX9_in_0 rfl rfl ?_
  refine ex_iload_n dX9_in_1 rfl rfl ?_
  refine ex_icmp_lt (q := 14) (q2 := 5) dX9_in_2 rfl rfl (fun h2 => ?_) (fun h2 => ?_)
  · refine ex_iconst (x := 0) dX9_in_14 rfl rfl ?_
    exact ex_zret dX9_in_15 rfl (by decide) (by first | exact b2i_f (decide_eq_false (fun z => Int32.not_lt.mpr z.1 h2)) | exact b2i_f (decide_eq_false (fun z => Int32.not_lt.mpr z.2 h7)) | exact b2i_t (decide_eq_true ⟨Int32.not_lt.mp h2, Int32.not_lt.mp h7⟩)) rfl
  · refine ex_iload_n dX9_in_5 rfl rfl ?_
    refine ex_iload_n dX9_in_6 rfl rfl ?_
    refine ex_icmp_gt (q := 14) (q2 := 10) dX9_in_7 rfl rfl (fun h7 => ?_) (fun h7 => ?_)
    · refine ex_iconst (x := 0) dX9_in_14 rfl rfl ?_
      exact ex_zret dX9_in_15 rfl (by decide) (by first | exact b2i_f (decide_eq_false (fun z => Int32.not_lt.mpr z.1 h2)) | exact b2i_f (decide_eq_false (fun z => Int32.not_lt.mpr z.2 h7)) | exact b2i_t (decide_eq_true ⟨Int32.not_lt.mp h2, Int32.not_lt.mp h7⟩)) rfl
    · refine ex_iconst (x := 1) dX9_in_10 rfl rfl ?_
      refine ex_goto (q := 15) dX9_in_11 rfl ?_
      exact ex_zret dX9_in_15 rfl (by decide) (by first | exact b2i_f (decide_eq_false (fun z => Int32.not_lt.mpr z.1 h2)) | exact b2i_f (decide_eq_false (fun z => Int32.not_lt.mpr z.2 h7)) | exact b2i_t (decide_eq_true ⟨Int32.not_lt.mp h2, Int32.not_lt.mp h7⟩)) rfl

def tn_wn (v x y : Int32) : Int32 := if v < x then x else if y < v then y else v
theorem k_within {lay : List qm_LE} (σ : qm_St) (v x y : Int32) : Ok lay 0 mX9_within [.int v, .int x, .int y] σ (some (.int (tn_wn v x y))) σ := by
  refine Ok.of (ls := [some (.int v), some (.int x), some (.int y)]) (Nat.le_of_ble_eq_true rfl) rfl ?_
  refine ex_iload_n dX9_within_0 rfl rfl ?_
  refine ex_iload_n dX9_within_1 rfl rfl ?_
  refine ex_icmp_ge (q := 9) (q2 := 5) dX9_within_2 rfl rfl (fun h2 => ?_) (fun h2 => ?_)
  · refine ex_iload_n dX9_within_9 rfl rfl ?_
    refine ex_iload_n dX9_within_10 rfl rfl ?_
    refine ex_icmp_le (q := 18) (q2 := 14) dX9_within_11 rfl rfl (fun h11 => ?_) (fun h11 => ?_)
    · refine ex_iload_n dX9_within_18 rfl rfl ?_
      exact ex_iret dX9_within_19 rfl (by first | (rw [tn_wn, if_pos (Int32.not_le.mp h2)]) | (rw [tn_wn, if_neg (Int32.not_lt.mpr h2), if_pos (Int32.not_le.mp h11)]) | (rw [tn_wn, if_neg (Int32.not_lt.mpr h2), if_neg (Int32.not_lt.mpr h11)])) rfl
    · refine ex_iload_n dX9_within_14 rfl rfl ?_
      refine ex_goto (q := 19) dX9_within_15 rfl ?_
      exact ex_iret dX9_within_19 rfl (by first | (rw [tn_wn, if_pos (Int32.not_le.mp h2)]) | (rw [tn_wn, if_neg (Int32.not_lt.mpr h2), if_pos (Int32.not_le.mp h11)]) | (rw [tn_wn, if_neg (Int32.not_lt.mpr h2), if_neg (Int32.not_lt.mpr h11)])) rfl
  · refine ex_iload_n dX9_within_5 rfl rfl ?_
    refine ex_goto (q := 19) dX9_within_6 rfl ?_
    exact ex_iret dX9_within_19 rfl (by first | (rw [tn_wn, if_pos (Int32.not_le.mp h2)]) | (rw [tn_wn, if_neg (Int32.not_lt.mpr h2), if_pos (Int32.not_le.mp h11)]) | (rw [tn_wn, if_neg (Int32.not_lt.mpr h2), if_neg (Int32.not_lt.mpr h11)])) rfl

theorem k_isLot {σ : qm_St} {T : tn_T} (hT : tn_ok T) (h : MR σ T) (l : Int32) : Ok qm_lay 1 mX9_isLot [.ref 55, .int l] σ (some (.int (b2i (tn_has T l)))) σ := by
  refine Ok.of (ls := [some (.ref 55), some (.int l)]) (Nat.le_of_ble_eq_true rfl) rfl ?_
  refine ex_iload_n dX9_isLot_0 rfl rfl ?_
  refine ex_iconst (x := 0) dX9_isLot_1 rfl rfl ?_
  refine ex_aload_n dX9_isLot_2 rfl rfl ?_
  refine ex_getI (s := 27) (x := nI (tn_L T)) dX9_isLot_3 rfl qp_8_78 rfl rfl (h.1.1) ?_
  refine ex_iconst (x := 1) dX9_isLot_6 rfl rfl ?_
  refine ex_isub (z := (nI (tn_L T)) - 1) dX9_isLot_7 rfl (rfl) ?_
  refine ex_callS (rest := []) dX9_isLot_8 rfl qp_8_81 rfl rfl rfl (Nat.le_of_ble_eq_true rfl) (k_in _ _ _ _) (Nat.le_of_ble_eq_true rfl) ?_
  show Ex qm_lay _ mX9_isLot 11 [some (.ref 55), some (.int l)] [.int (b2i (tn_in l 0 ((nI (tn_L T)) - 1)))] σ _ _
  exact ex_zret dX9_isLot_11 rfl (b2i_01 _) (by
    refine congrArg (fun z => some (Value.int (b2i z))) (decide_eq_decide.mpr ?_)
    have hL := hT.1
    have e1 := pk_sub_toInt (a := tn_L T) (b := 1) (by omega) (by decide)
    have e2 : (nI (tn_L T)).toInt = (tn_L T : Int) := nI_toInt (by omega)
    have e3 : nI (tn_L T) - 1 = nI (tn_L T) - nI 1 := rfl
    rw [e3]
    simp only [Int32.le_iff_toInt_le, Int32.lt_iff_toInt_lt, e1, e2]
    omega) rfl

theorem k_areTwo {σ : qm_St} {T : tn_T} (hT : tn_ok T) (h : MR σ T) (x y : Int32) : Ok qm_lay 2 mX9_areTwo [.ref 55, .int x, .int y] σ (some (.int (b2i (tn_two T x y)))) σ := by
  refine Ok.of (ls := [some (.ref 55), some (.int x), some (.int y)]) (Nat.le_of_ble_eq_true rfl) rfl ?_
  refine ex_aload_n dX9_areTwo_0 rfl rfl ?_
  refine ex_iload_n dX9_areTwo_1 rfl rfl ?_
  refine ex_callV (a := 55) (rest := []) dX9_areTwo_2 rfl qp_8_85 rfl rfl rfl rfl rfl (Nat.le_of_ble_eq_true rfl) (k_isLot hT h x) (Nat.le_of_ble_eq_true rfl) ?_
  show Ex qm_lay _ mX9_areTwo 5 [some (.ref 55), some (.int x), some (.int y)] [.int (b2i (tn_has T x))] σ _ _
  refine ex_if_eq (q := 25) (q2 := 8) dX9_areTwo_5 rfl rfl (fun h5 => ?_) (fun h5 => ?_)
  · refine ex_iconst (x := 0) dX9_areTwo_25 rfl rfl ?_
    exact ex_zret dX9_areTwo_26 rfl (by decide) (by first | exact b2i_f (by rw [tn_two, b2i_0.mp h5]; rfl) | exact b2i_f (by rw [tn_two, b2i_0.mp h13, Bool.and_false]; rfl) | exact b2i_f (by rw [tn_two, decide_eq_false (fun z => z h18), Bool.and_false]) | exact b2i_t (by rw [tn_two, b2i_n0.mp h5, b2i_n0.mp h13, decide_eq_true h18]; rfl)) rfl
  · refine ex_aload_n dX9_areTwo_8 rfl rfl ?_
    refine ex_iload_n dX9_areTwo_9 rfl rfl ?_
    refine ex_callV (a := 55) (rest := []) dX9_areTwo_10 rfl qp_8_85 rfl rfl rfl rfl rfl (Nat.le_of_ble_eq_true rfl) (k_isLot hT h y) (Nat.le_of_ble_eq_true rfl) ?_
    show Ex qm_lay _ mX9_areTwo 13 [some (.ref 55), some (.int x), some (.int y)] [.int (b2i (tn_has T y))] σ _ _
    refine ex_if_eq (q := 25) (q2 := 16) dX9_areTwo_13 rfl rfl (fun h13 => ?_) (fun h13 => ?_)
    · refine ex_iconst (x := 0) dX9_areTwo_25 rfl rfl ?_
      exact ex_zret dX9_areTwo_26 rfl (by decide) (by first | exact b2i_f (by rw [tn_two, b2i_0.mp h5]; rfl) | exact b2i_f (by rw [tn_two, b2i_0.mp h13, Bool.and_false]; rfl) | exact b2i_f (by rw [tn_two, decide_eq_false (fun z => z h18), Bool.and_false]) | exact b2i_t (by rw [tn_two, b2i_n0.mp h5, b2i_n0.mp h13, decide_eq_true h18]; rfl)) rfl
    · refine ex_iload_n dX9_areTwo_16 rfl rfl ?_
      refine ex_iload_n dX9_areTwo_17 rfl rfl ?_
      refine ex_icmp_eq (q := 25) (q2 := 21) dX9_areTwo_18 rfl rfl (fun h18 => ?_) (fun h18 => ?_)
      · refine ex_iconst (x := 0) dX9_areTwo_25 rfl rfl ?_
        exact ex_zret dX9_areTwo_26 rfl (by decide) (by first | exact b2i_f (by rw [tn_two, b2i_0.mp h5]; rfl) | exact b2i_f (by rw [tn_two, b2i_0.mp h13, Bool.and_false]; rfl) | exact b2i_f (by rw [tn_two, decide_eq_false (fun z => z h18), Bool.and_false]) | exact b2i_t (by rw [tn_two, b2i_n0.mp h5, b2i_n0.mp h13, decide_eq_true h18]; rfl)) rfl
      · refine ex_iconst (x := 1) dX9_areTwo_21 rfl rfl ?_
        refine ex_goto (q := 26) dX9_areTwo_22 rfl ?_
        exact ex_zret dX9_areTwo_26 rfl (by decide) (by first | exact b2i_f (by rw [tn_two, b2i_0.mp h5]; rfl) | exact b2i_f (by rw [tn_two, b2i_0.mp h13, Bool.and_false]; rfl) | exact b2i_f (by rw [tn_two, decide_eq_false (fun z => z h18), Bool.and_false]) | exact b2i_t (by rw [tn_two, b2i_n0.mp h5, b2i_n0.mp h13, decide_eq_true h18]; rfl)) rfl

theorem b2i_1 {b : Bool} : b2i b = 1 ↔ b = true := by cases b <;> simp [b2i]
theorem b2i_n1 {b : Bool} : ¬ b2i b = 1 ↔ b = false := by cases b <;> simp [b2i]
theorem k_areBeside {σ : qm_St} {T : tn_T} (hT : tn_ok T) (h : MR σ T) {x y : Nat} (hx : x < tn_L T) (hy : y < tn_L T) : Ok qm_lay 0 mX9_areBeside [.ref 55, .int (nI x), .int (nI y)] σ (some (.int (b2i ((tn_b T x).testBit y)))) σ := by
  refine Ok.of (ls := [some (.ref 55), some (.int (nI x)), some (.int (nI y))]) (Nat.le_of_ble_eq_true rfl) rfl ?_
  have hL := hT.1
  have hbx := tn_b_lt hT hx
  refine ex_aload_n dX9_areBeside_0 rfl rfl ?_
  refine ex_getR (b := 58) dX9_areBeside_1 rfl qp_8_16 rfl rfl ?_
  refine ex_iload_n dX9_areBeside_4 rfl rfl ?_
  refine ex_iaload (k := x) (x := nI (tn_b T x)) dX9_areBeside_5 rfl rfl (rfl) (by omega) (by decide) (MR.bb h (by omega)) ?_
  refine ex_iload_n dX9_areBeside_6 rfl rfl ?_
  refine ex_ishr (z := (nI (tn_b T x)) >>> ((nI y) &&& 31)) dX9_areBeside_7 rfl (rfl) ?_
  refine ex_iconst (x := 1) dX9_areBeside_8 rfl rfl ?_
  refine ex_iand (z := b2i ((tn_b T x).testBit y)) dX9_areBeside_9 rfl (nI_bit (by omega) (by omega)) ?_
  refine ex_iconst (x := 1) dX9_areBeside_10 rfl rfl ?_
  refine ex_icmp_ne (q := 18) (q2 := 14) dX9_areBeside_11 rfl rfl (fun h11 => ?_) (fun h11 => ?_)
  · refine ex_iconst (x := 0) dX9_areBeside_18 rfl rfl ?_
    exact ex_zret dX9_areBeside_19 rfl (by decide) (by first | exact b2i_f (b2i_n1.mp h11) | exact b2i_t (b2i_1.mp (Decidable.not_not.mp h11))) rfl
  · refine ex_iconst (x := 1) dX9_areBeside_14 rfl rfl ?_
    refine ex_goto (q := 19) dX9_areBeside_15 rfl ?_
    exact ex_zret dX9_areBeside_19 rfl (by decide) (by first | exact b2i_f (b2i_n1.mp h11) | exact b2i_t (b2i_1.mp (Decidable.not_not.mp h11))) rfl

theorem k_isBuilt {σ : qm_St} {T : tn_T} (hT : tn_ok T) (h : MR σ T) {l : Nat} (hl : l < tn_L T) : Ok qm_lay 0 mX9_isBuilt [.ref 55, .int (nI l)] σ (some (.int (b2i ((tn_u T).testBit l)))) σ := by
  refine Ok.of (ls := [some (.ref 55), some (.int (nI l))]) (Nat.le_of_ble_eq_true rfl) rfl ?_
  have hL := hT.1
  refine ex_aload_n dX9_isBuilt_0 rfl rfl ?_
  refine ex_getR (b := 59) dX9_isBuilt_1 rfl qp_8_19 rfl rfl ?_
  refine ex_iload_n dX9_isBuilt_4 rfl rfl ?_
  refine ex_iaload (k := l) (x := tn_cv T l) dX9_isBuilt_5 rfl rfl (rfl) (by omega) (by decide) (MR.cc h (by omega)) ?_
  refine ex_iconst (x := (-1)) dX9_isBuilt_6 rfl rfl ?_
  refine ex_icmp_eq (q := 14) (q2 := 10) dX9_isBuilt_7 rfl rfl (fun h7 => ?_) (fun h7 => ?_)
  · refine ex_iconst (x := 0) dX9_isBuilt_14 rfl rfl ?_
    exact ex_zret dX9_isBuilt_15 rfl (by decide) (by first | exact b2i_f ((tn_cv_m1 hT hl).mp h7) | exact b2i_t (by simpa using (fun z => h7 ((tn_cv_m1 hT hl).mpr z)))) rfl
  · refine ex_iconst (x := 1) dX9_isBuilt_10 rfl rfl ?_
    refine ex_goto (q := 15) dX9_isBuilt_11 rfl ?_
    exact ex_zret dX9_isBuilt_15 rfl (by decide) (by first | exact b2i_f ((tn_cv_m1 hT hl).mp h7) | exact b2i_t (by simpa using (fun z => h7 ((tn_cv_m1 hT hl).mpr z)))) rfl

set_option maxHeartbeats 2000000 in
theorem l_ones {lay : List qm_LE} {σ : qm_St} {n : Nat} (hn : n < 4096) : ∀ (r : Nat) (k : Nat), k + r = 12 → Ex lay 0 mX9_ones 4 [some (.int (nI n)), some (.int (nI (tn_pk n k))), some (.int (nI k))] [] σ (some (.int (nI (tn_pc n)))) σ := by
  intro r
  induction r with
  | zero =>
    intro k hk
    refine ex_iload_n dX9_ones_4 rfl rfl ?_
    refine ex_bipush (x := 12) dX9_ones_5 rfl rfl ?_
    refine ex_icmp_ge (q := 24) (q2 := 10) dX9_ones_7 rfl rfl (fun _ => ?_) (fun hh => absurd (nI_le (a := 12) (by omega) (by omega)) hh)
    refine ex_iload_n dX9_ones_24 rfl rfl ?_
    exact ex_iret dX9_ones_25 rfl (by rw [show k = 12 by omega]; rfl) rfl
  | succ r ih =>
    intro k hk
    refine ex_iload_n dX9_ones_4 rfl rfl ?_
    refine ex_bipush (x := 12) dX9_ones_5 rfl rfl ?_
    refine ex_icmp_ge (q := 24) (q2 := 10) dX9_ones_7 rfl rfl (fun hh => absurd hh (nI_ge (b := 12) (by omega) (by omega))) (fun _ => ?_)
    refine ex_iload_n dX9_ones_10 rfl rfl ?_
    refine ex_iload_n dX9_ones_11 rfl rfl ?_
    refine ex_iload_n dX9_ones_12 rfl rfl ?_
    refine ex_ishr (z := (nI n) >>> ((nI k) &&& 31)) dX9_ones_13 rfl (rfl) ?_
    refine ex_iconst (x := 1) dX9_ones_14 rfl rfl ?_
    refine ex_iand (z := nI (n / 2 ^ k % 2)) dX9_ones_15 rfl (bit_n (by omega) (by omega)) ?_
    refine ex_iadd (z := nI (tn_pk n (k + 1))) dX9_ones_16 rfl (by rw [nI_add, tn_pk_s]) ?_
    refine ex_istore_n (ls' := [some (.int (nI n)), some (.int (nI (tn_pk n (k + 1)))), some (.int (nI k))]) dX9_ones_17 rfl (Nat.le_of_ble_eq_true rfl) rfl rfl ?_
    refine ex_iinc (y := nI (k + 1)) (ls' := [some (.int (nI n)), some (.int (nI (tn_pk n (k + 1)))), some (.int (nI (k + 1)))]) dX9_ones_18 rfl rfl rfl (nI_add k 1) rfl ?_
    refine ex_goto (q := 4) dX9_ones_21 rfl ?_
    exact ih (k + 1) (by omega)

theorem k_ones {lay : List qm_LE} {σ : qm_St} {n : Nat} (hn : n < 4096) : Ok lay 0 mX9_ones [.int (nI n)] σ (some (.int (nI (tn_pc n)))) σ := by
  refine Ok.of (ls := [some (.int (nI n)), none, none]) (Nat.le_of_ble_eq_true rfl) rfl ?_
  refine ex_iconst (x := 0) dX9_ones_0 rfl rfl ?_
  refine ex_istore_n (ls' := [some (.int (nI n)), some (.int 0), none]) dX9_ones_1 rfl (Nat.le_of_ble_eq_true rfl) rfl rfl ?_
  refine ex_iconst (x := 0) dX9_ones_2 rfl rfl ?_
  refine ex_istore_n (ls' := [some (.int (nI n)), some (.int 0), some (.int 0)]) dX9_ones_3 rfl (Nat.le_of_ble_eq_true rfl) rfl rfl ?_
  exact l_ones hn 12 0 (by omega)

theorem k_all {σ : qm_St} {T : tn_T} (hT : tn_ok T) (h : MR σ T) : Ok qm_lay 0 mX9_all [.ref 55] σ (some (.int (nI (2 ^ tn_L T - 1)))) σ := by
  refine Ok.of (ls := [some (.ref 55)]) (Nat.le_of_ble_eq_true rfl) rfl ?_
  refine ex_iconst (x := 1) dX9_all_0 rfl rfl ?_
  refine ex_aload_n dX9_all_1 rfl rfl ?_
  refine ex_getI (s := 27) (x := nI (tn_L T)) dX9_all_2 rfl qp_8_78 rfl rfl (h.1.1) ?_
  refine ex_ishl (z := nI (2 ^ tn_L T)) dX9_all_5 rfl (nI_1shl (by have := hT.1; omega)) ?_
  refine ex_iconst (x := 1) dX9_all_6 rfl rfl ?_
  refine ex_isub (z := nI (2 ^ tn_L T - 1)) dX9_all_7 rfl (pk_sub (b := 1) (Nat.two_pow_pos _)) ?_
  exact ex_iret dX9_all_8 rfl rfl rfl

def tn_bf (T : tn_T) (l : Nat) : Nat := if (tn_u T).testBit l then 2 ^ l else 0
theorem tn_bf_u {T : tn_T} (hT : tn_ok T) : tn_fo (tn_bf T) (tn_L T) = tn_u T := by
  apply Nat.eq_of_testBit_eq
  intro j
  rw [tn_fo_bit, Bool.eq_iff_iff, List.any_eq_true]
  constructor
  · rintro ⟨k, hk, hb⟩
    unfold tn_bf at hb
    split at hb
    · rename_i g
      rw [Nat.testBit_two_pow] at hb
      rw [← of_decide_eq_true hb]; exact g
    · rw [Nat.zero_testBit] at hb; cases hb
  · intro hb
    refine ⟨j, List.mem_range.mpr ?_, ?_⟩
    · rcases Nat.lt_or_ge j (tn_L T) with q | q
      · exact q
      · rw [Nat.testBit_lt_two_pow (Nat.lt_of_lt_of_le hT.2.2.1 (Nat.pow_le_pow_right (by omega) q))] at hb; cases hb
    · rw [tn_bf, if_pos hb, Nat.testBit_two_pow]; simp
set_option maxHeartbeats 2000000 in
theorem l_builtSet {σ : qm_St} {T : tn_T} (hT : tn_ok T) (h : MR σ T) : ∀ (n : Nat) (k : Nat), k + n = tn_L T → Ex qm_lay 1 mX9_builtSet 4 [some (.ref 55), some (.int (nI (tn_fo (tn_bf T) k))), some (.int (nI k))] [] σ (some (.int (nI (tn_u T)))) σ := by
  have hL := hT.1
  intro n
  induction n with
  | zero =>
    intro k hk
    refine ex_iload_n dX9_builtSet_4 rfl rfl ?_
    refine ex_aload_n dX9_builtSet_5 rfl rfl ?_
    refine ex_getI (s := 27) (x := nI (tn_L T)) dX9_builtSet_6 rfl qp_8_78 rfl rfl (h.1.1) ?_
    refine ex_icmp_ge (q := 36) (q2 := 12) dX9_builtSet_9 rfl rfl (fun _ => ?_) (fun hh => absurd (nI_le (by omega) (by omega)) hh)
    refine ex_iload_n dX9_builtSet_36 rfl rfl ?_
    exact ex_iret dX9_builtSet_37 rfl (by rw [show k = tn_L T by omega, tn_bf_u hT]) rfl
  | succ n ih =>
    intro k hk
    refine ex_iload_n dX9_builtSet_4 rfl rfl ?_
    refine ex_aload_n dX9_builtSet_5 rfl rfl ?_
    refine ex_getI (s := 27) (x := nI (tn_L T)) dX9_builtSet_6 rfl qp_8_78 rfl rfl (h.1.1) ?_
    refine ex_icmp_ge (q := 36) (q2 := 12) dX9_builtSet_9 rfl rfl (fun hh => absurd hh (nI_ge (by omega) (by omega))) (fun _ => ?_)
    refine ex_iload_n dX9_builtSet_12 rfl rfl ?_
    refine ex_aload_n dX9_builtSet_13 rfl rfl ?_
    refine ex_iload_n dX9_builtSet_14 rfl rfl ?_
    refine ex_callV (a := 55) (rest := [.int (nI (tn_fo (tn_bf T) k))]) dX9_builtSet_15 rfl qp_8_89 rfl rfl rfl rfl rfl (Nat.le_of_ble_eq_true rfl) (k_isBuilt hT h (by omega)) (Nat.le_of_ble_eq_true rfl) ?_
    show Ex qm_lay _ mX9_builtSet 18 [some (.ref 55), some (.int (nI (tn_fo (tn_bf T) k))), some (.int (nI k))] [.int (b2i ((tn_u T).testBit k)), .int (nI (tn_fo (tn_bf T) k))] σ _ _
    refine ex_if_eq (q := 27) (q2 := 21) dX9_builtSet_18 rfl rfl (fun h18 => ?_) (fun h18 => ?_)
    · have hbk := b2i_0.mp h18
      refine ex_iconst (x := 0) dX9_builtSet_27 rfl rfl ?_
      refine ex_ior (z := nI (tn_fo (tn_bf T) (k + 1))) dX9_builtSet_28 rfl (by rw [Int32.or_zero, tn_fo_0 (by rw [tn_bf, if_neg (by rw [hbk]; decide)])]) ?_
      refine ex_istore_n (ls' := [some (.ref 55), some (.int (nI (tn_fo (tn_bf T) (k + 1)))), some (.int (nI k))]) dX9_builtSet_29 rfl (Nat.le_of_ble_eq_true rfl) rfl rfl ?_
      refine ex_iinc (y := nI (k + 1)) (ls' := [some (.ref 55), some (.int (nI (tn_fo (tn_bf T) (k + 1)))), some (.int (nI (k + 1)))]) dX9_builtSet_30 rfl rfl rfl (nI_add k 1) rfl ?_
      refine ex_goto (q := 4) dX9_builtSet_33 rfl ?_
      exact ih (k + 1) (by omega)
    · have hbk := b2i_n0.mp h18
      refine ex_iconst (x := 1) dX9_builtSet_21 rfl rfl ?_
      refine ex_iload_n dX9_builtSet_22 rfl rfl ?_
      refine ex_ishl (z := nI (2 ^ k)) dX9_builtSet_23 rfl (nI_1shl (by omega)) ?_
      refine ex_goto (q := 28) dX9_builtSet_24 rfl ?_
      refine ex_ior (z := nI (tn_fo (tn_bf T) (k + 1))) dX9_builtSet_28 rfl (by rw [nI_or, tn_fo, tn_bf, if_pos hbk]) ?_
      refine ex_istore_n (ls' := [some (.ref 55), some (.int (nI (tn_fo (tn_bf T) (k + 1)))), some (.int (nI k))]) dX9_builtSet_29 rfl (Nat.le_of_ble_eq_true rfl) rfl rfl ?_
      refine ex_iinc (y := nI (k + 1)) (ls' := [some (.ref 55), some (.int (nI (tn_fo (tn_bf T) (k + 1)))), some (.int (nI (k + 1)))]) dX9_builtSet_30 rfl rfl rfl (nI_add k 1) rfl ?_
      refine ex_goto (q := 4) dX9_builtSet_33 rfl ?_
      exact ih (k + 1) (by omega)

theorem k_builtSet {σ : qm_St} {T : tn_T} (hT : tn_ok T) (h : MR σ T) : Ok qm_lay 1 mX9_builtSet [.ref 55] σ (some (.int (nI (tn_u T)))) σ := by
  refine Ok.of (ls := [some (.ref 55), none, none]) (Nat.le_of_ble_eq_true rfl) rfl ?_
  refine ex_iconst (x := 0) dX9_builtSet_0 rfl rfl ?_
  refine ex_istore_n (ls' := [some (.ref 55), some (.int 0), none]) dX9_builtSet_1 rfl (Nat.le_of_ble_eq_true rfl) rfl rfl ?_
  refine ex_iconst (x := 0) dX9_builtSet_2 rfl rfl ?_
  refine ex_istore_n (ls' := [some (.ref 55), some (.int 0), some (.int 0)]) dX9_builtSet_3 rfl (Nat.le_of_ble_eq_true rfl) rfl rfl ?_
  exact l_builtSet hT h (tn_L T) 0 (by omega)

set_option maxHeartbeats 2000000 in
theorem l_howMany {σ : qm_St} {T : tn_T} (hT : tn_ok T) (h : MR σ T) : ∀ (n : Nat) (k : Nat), k + n = tn_L T → Ex qm_lay 1 mX9_howMany 4 [some (.ref 55), some (.int (nI (tn_fo (tn_cf T) k))), some (.int (nI k))] [] σ (some (.int (nI (tn_pc (tn_cb T))))) σ := by
  have hL := hT.1
  intro n
  induction n with
  | zero =>
    intro k hk
    refine ex_iload_n dX9_howMany_4 rfl rfl ?_
    refine ex_aload_n dX9_howMany_5 rfl rfl ?_
    refine ex_getI (s := 27) (x := nI (tn_L T)) dX9_howMany_6 rfl qp_8_78 rfl rfl (h.1.1) ?_
    refine ex_icmp_ge (q := 41) (q2 := 12) dX9_howMany_9 rfl rfl (fun _ => ?_) (fun hh => absurd (nI_le (by omega) (by omega)) hh)
    refine ex_iload_n dX9_howMany_41 rfl rfl ?_
    refine ex_callS (rest := []) dX9_howMany_42 rfl qp_8_92 rfl rfl rfl (Nat.le_of_ble_eq_true rfl) ((by rw [show k = tn_L T by omega]; exact k_ones (tn_cb_lt hT))) (Nat.le_of_ble_eq_true rfl) ?_
    show Ex qm_lay _ mX9_howMany 45 [some (.ref 55), some (.int (nI (tn_fo (tn_cf T) k))), some (.int (nI k))] [.int (nI (tn_pc (tn_cb T)))] σ _ _
    exact ex_iret dX9_howMany_45 rfl rfl rfl
  | succ n ih =>
    intro k hk
    refine ex_iload_n dX9_howMany_4 rfl rfl ?_
    refine ex_aload_n dX9_howMany_5 rfl rfl ?_
    refine ex_getI (s := 27) (x := nI (tn_L T)) dX9_howMany_6 rfl qp_8_78 rfl rfl (h.1.1) ?_
    refine ex_icmp_ge (q := 41) (q2 := 12) dX9_howMany_9 rfl rfl (fun hh => absurd hh (nI_ge (by omega) (by omega))) (fun _ => ?_)
    refine ex_iload_n dX9_howMany_12 rfl rfl ?_
    refine ex_aload_n dX9_howMany_13 rfl rfl ?_
    refine ex_iload_n dX9_howMany_14 rfl rfl ?_
    refine ex_callV (a := 55) (rest := [.int (nI (tn_fo (tn_cf T) k))]) dX9_howMany_15 rfl qp_8_89 rfl rfl rfl rfl rfl (Nat.le_of_ble_eq_true rfl) (k_isBuilt hT h (by omega)) (Nat.le_of_ble_eq_true rfl) ?_
    show Ex qm_lay _ mX9_howMany 18 [some (.ref 55), some (.int (nI (tn_fo (tn_cf T) k))), some (.int (nI k))] [.int (b2i ((tn_u T).testBit k)), .int (nI (tn_fo (tn_cf T) k))] σ _ _
    refine ex_if_eq (q := 32) (q2 := 21) dX9_howMany_18 rfl rfl (fun h18 => ?_) (fun h18 => ?_)
    · have hbk := b2i_0.mp h18
      refine ex_iconst (x := 0) dX9_howMany_32 rfl rfl ?_
      refine ex_ior (z := nI (tn_fo (tn_cf T) (k + 1))) dX9_howMany_33 rfl (by rw [Int32.or_zero, tn_fo_0 (by rw [tn_cf, if_neg (by rw [hbk]; decide)])]) ?_
      refine ex_istore_n (ls' := [some (.ref 55), some (.int (nI (tn_fo (tn_cf T) (k + 1)))), some (.int (nI k))]) dX9_howMany_34 rfl (Nat.le_of_ble_eq_true rfl) rfl rfl ?_
      refine ex_iinc (y := nI (k + 1)) (ls' := [some (.ref 55), some (.int (nI (tn_fo (tn_cf T) (k + 1)))), some (.int (nI (k + 1)))]) dX9_howMany_35 rfl rfl rfl (nI_add k 1) rfl ?_
      refine ex_goto (q := 4) dX9_howMany_38 rfl ?_
      exact ih (k + 1) (by omega)
    · have hbk := b2i_n0.mp h18
      have hc11 := (hT.2.2.2 k (by omega)).2.2.2.2.1 hbk
      refine ex_iconst (x := 1) dX9_howMany_21 rfl rfl ?_
      refine ex_aload_n dX9_howMany_22 rfl rfl ?_
      refine ex_getR (b := 59) dX9_howMany_23 rfl qp_8_19 rfl rfl ?_
      refine ex_iload_n dX9_howMany_26 rfl rfl ?_
      refine ex_iaload (k := k) (x := nI (tn_c T k)) dX9_howMany_27 rfl rfl (rfl) (by omega) (by decide) (by rw [← tn_cv_b hbk]; exact MR.cc h (by omega)) ?_
      refine ex_ishl (z := nI (2 ^ tn_c T k)) dX9_howMany_28 rfl (nI_1shl (by omega)) ?_
      refine ex_goto (q := 33) dX9_howMany_29 rfl ?_
      refine ex_ior (z := nI (tn_fo (tn_cf T) (k + 1))) dX9_howMany_33 rfl (by rw [nI_or, tn_fo, tn_cf, if_pos hbk]) ?_
      refine ex_istore_n (ls' := [some (.ref 55), some (.int (nI (tn_fo (tn_cf T) (k + 1)))), some (.int (nI k))]) dX9_howMany_34 rfl (Nat.le_of_ble_eq_true rfl) rfl rfl ?_
      refine ex_iinc (y := nI (k + 1)) (ls' := [some (.ref 55), some (.int (nI (tn_fo (tn_cf T) (k + 1)))), some (.int (nI (k + 1)))]) dX9_howMany_35 rfl rfl rfl (nI_add k 1) rfl ?_
      refine ex_goto (q := 4) dX9_howMany_38 rfl ?_
      exact ih (k + 1) (by omega)

theorem k_howMany {σ : qm_St} {T : tn_T} (hT : tn_ok T) (h : MR σ T) : Ok qm_lay 1 mX9_howMany [.ref 55] σ (some (.int (nI (tn_pc (tn_cb T))))) σ := by
  refine Ok.of (ls := [some (.ref 55), none, none]) (Nat.le_of_ble_eq_true rfl) rfl ?_
  refine ex_iconst (x := 0) dX9_howMany_0 rfl rfl ?_
  refine ex_istore_n (ls' := [some (.ref 55), some (.int 0), none]) dX9_howMany_1 rfl (Nat.le_of_ble_eq_true rfl) rfl rfl ?_
  refine ex_iconst (x := 0) dX9_howMany_2 rfl rfl ?_
  refine ex_istore_n (ls' := [some (.ref 55), some (.int 0), some (.int 0)]) dX9_howMany_3 rfl (Nat.le_of_ble_eq_true rfl) rfl rfl ?_
  exact l_howMany hT h (tn_L T) 0 (by omega)

set_option maxHeartbeats 2000000 in
theorem lk_pairs {σ : qm_St} {T : tn_T} (hT : tn_ok T) (h : MR σ T) : ∀ (n : Nat) (k : Nat), k + n = tn_L T → Ex qm_lay 1 mX9_pairs 4 [some (.ref 55), some (.int (nI (tn_sm (fun l => tn_pc (tn_b T l)) k))), some (.int (nI k))] [] σ (some (.int (nI (tn_pr T)))) σ := by
  have hL := hT.1
  intro n
  induction n with
  | zero =>
    intro k hk
    refine ex_iload_n dX9_pairs_4 rfl rfl ?_
    refine ex_aload_n dX9_pairs_5 rfl rfl ?_
    refine ex_getI (s := 27) (x := nI (tn_L T)) dX9_pairs_6 rfl qp_8_78 rfl rfl (h.1.1) ?_
    refine ex_icmp_ge (q := 30) (q2 := 12) dX9_pairs_9 rfl rfl (fun _ => ?_) (fun hh => absurd (nI_le (by omega) (by omega)) hh)
    refine ex_iload_n dX9_pairs_30 rfl rfl ?_
    refine ex_iconst (x := 2) dX9_pairs_31 rfl rfl ?_
    refine ex_idiv (z := nI (tn_sm (fun l => tn_pc (tn_b T l)) k / 2)) dX9_pairs_32 rfl (by decide) (pk_div (by have := tn_sm_le (f := fun l => tn_pc (tn_b T l)) (m := 12) k (fun q hq => tn_pc_le _ (by have := tn_b_lt hT (show q < tn_L T by omega); omega)); omega) (by decide) (by decide)) ?_
    exact ex_iret dX9_pairs_33 rfl (by rw [show k = tn_L T by omega]; rfl) rfl
  | succ n ih =>
    intro k hk
    refine ex_iload_n dX9_pairs_4 rfl rfl ?_
    refine ex_aload_n dX9_pairs_5 rfl rfl ?_
    refine ex_getI (s := 27) (x := nI (tn_L T)) dX9_pairs_6 rfl qp_8_78 rfl rfl (h.1.1) ?_
    refine ex_icmp_ge (q := 30) (q2 := 12) dX9_pairs_9 rfl rfl (fun hh => absurd hh (nI_ge (by omega) (by omega))) (fun _ => ?_)
    refine ex_iload_n dX9_pairs_12 rfl rfl ?_
    refine ex_aload_n dX9_pairs_13 rfl rfl ?_
    refine ex_getR (b := 58) dX9_pairs_14 rfl qp_8_16 rfl rfl ?_
    refine ex_iload_n dX9_pairs_17 rfl rfl ?_
    refine ex_iaload (k := k) (x := nI (tn_b T k)) dX9_pairs_18 rfl rfl (rfl) (by omega) (by decide) (MR.bb h (by omega)) ?_
    refine ex_callS (rest := [.int (nI (tn_sm (fun l => tn_pc (tn_b T l)) k))]) dX9_pairs_19 rfl qp_8_92 rfl rfl rfl (Nat.le_of_ble_eq_true rfl) (k_ones (by have := tn_b_lt hT (show k < tn_L T by omega); omega)) (Nat.le_of_ble_eq_true rfl) ?_
    show Ex qm_lay _ mX9_pairs 22 [some (.ref 55), some (.int (nI (tn_sm (fun l => tn_pc (tn_b T l)) k))), some (.int (nI k))] [.int (nI (tn_pc (tn_b T k))), .int (nI (tn_sm (fun l => tn_pc (tn_b T l)) k))] σ _ _
    refine ex_iadd (z := nI (tn_sm (fun l => tn_pc (tn_b T l)) (k + 1))) dX9_pairs_22 rfl (by rw [nI_add, tn_sm]) ?_
    refine ex_istore_n (ls' := [some (.ref 55), some (.int (nI (tn_sm (fun l => tn_pc (tn_b T l)) (k + 1)))), some (.int (nI k))]) dX9_pairs_23 rfl (Nat.le_of_ble_eq_true rfl) rfl rfl ?_
    refine ex_iinc (y := nI (k + 1)) (ls' := [some (.ref 55), some (.int (nI (tn_sm (fun l => tn_pc (tn_b T l)) (k + 1)))), some (.int (nI (k + 1)))]) dX9_pairs_24 rfl rfl rfl (nI_add k 1) rfl ?_
    refine ex_goto (q := 4) dX9_pairs_27 rfl ?_
    exact ih (k + 1) (by omega)

theorem k_pairs {σ : qm_St} {T : tn_T} (hT : tn_ok T) (h : MR σ T) : Ok qm_lay 1 mX9_pairs [.ref 55] σ (some (.int (nI (tn_pr T)))) σ := by
  refine Ok.of (ls := [some (.ref 55), none, none]) (Nat.le_of_ble_eq_true rfl) rfl ?_
  refine ex_iconst (x := 0) dX9_pairs_0 rfl rfl ?_
  refine ex_istore_n (ls' := [some (.ref 55), some (.int 0), none]) dX9_pairs_1 rfl (Nat.le_of_ble_eq_true rfl) rfl rfl ?_
  refine ex_iconst (x := 0) dX9_pairs_2 rfl rfl ?_
  refine ex_istore_n (ls' := [some (.ref 55), some (.int 0), some (.int 0)]) dX9_pairs_3 rfl (Nat.le_of_ble_eq_true rfl) rfl rfl ?_
  exact lk_pairs hT h (tn_L T) 0 (by omega)

set_option maxHeartbeats 2000000 in
theorem l_takenBeside {σ : qm_St} {T : tn_T} (hT : tn_ok T) (h : MR σ T) {l : Nat} (hl : l < tn_L T) : ∀ (n : Nat) (k : Nat), k + n = tn_L T → Ex qm_lay 1 mX9_takenBeside 4 [some (.ref 55), some (.int (nI l)), some (.int (nI (tn_fo (tn_tnf T l) k))), some (.int (nI k))] [] σ (some (.int (nI (tn_tn T l)))) σ := by
  have hL := hT.1
  intro n
  induction n with
  | zero =>
    intro k hk
    refine ex_iload_n dX9_takenBeside_4 rfl rfl ?_
    refine ex_aload_n dX9_takenBeside_5 rfl rfl ?_
    refine ex_getI (s := 27) (x := nI (tn_L T)) dX9_takenBeside_6 rfl qp_8_78 rfl rfl (h.1.1) ?_
    refine ex_icmp_ge (q := 60) (q2 := 12) dX9_takenBeside_9 rfl rfl (fun _ => ?_) (fun hh => absurd (nI_le (by omega) (by omega)) hh)
    refine ex_iload_n dX9_takenBeside_60 rfl rfl ?_
    exact ex_iret dX9_takenBeside_61 rfl (by rw [show k = tn_L T by omega]; rfl) rfl
  | succ n ih =>
    intro k hk
    refine ex_iload_n dX9_takenBeside_4 rfl rfl ?_
    refine ex_aload_n dX9_takenBeside_5 rfl rfl ?_
    refine ex_getI (s := 27) (x := nI (tn_L T)) dX9_takenBeside_6 rfl qp_8_78 rfl rfl (h.1.1) ?_
    refine ex_icmp_ge (q := 60) (q2 := 12) dX9_takenBeside_9 rfl rfl (fun hh => absurd hh (nI_ge (by omega) (by omega))) (fun _ => ?_)
    refine ex_iload_n dX9_takenBeside_12 rfl rfl ?_
    refine ex_aload_n dX9_takenBeside_13 rfl rfl ?_
    refine ex_iload_n dX9_takenBeside_14 rfl rfl ?_
    refine ex_iload_n dX9_takenBeside_15 rfl rfl ?_
    refine ex_callV (a := 55) (rest := [.int (nI (tn_fo (tn_tnf T l) k))]) dX9_takenBeside_16 rfl qp_8_186 rfl rfl rfl rfl rfl (Nat.le_of_ble_eq_true rfl) (k_areBeside hT h hl (by omega)) (Nat.le_of_ble_eq_true rfl) ?_
    show Ex qm_lay _ mX9_takenBeside 19 [some (.ref 55), some (.int (nI l)), some (.int (nI (tn_fo (tn_tnf T l) k))), some (.int (nI k))] [.int (b2i ((tn_b T l).testBit k)), .int (nI (tn_fo (tn_tnf T l) k))] σ _ _
    refine ex_if_eq (q := 51) (q2 := 22) dX9_takenBeside_19 rfl rfl (fun h19 => ?_) (fun h19 => ?_)
    · have hz : tn_tnf T l k = 0 := by rw [tn_tnf, if_neg (by rw [Nat.testBit_and, b2i_0.mp h19]; simp)]
      refine ex_iconst (x := 0) dX9_takenBeside_51 rfl rfl ?_
      refine ex_ior (z := nI (tn_fo (tn_tnf T l) (k + 1))) dX9_takenBeside_52 rfl (by rw [Int32.or_zero, tn_fo_0 hz]) ?_
      refine ex_istore_n (ls' := [some (.ref 55), some (.int (nI l)), some (.int (nI (tn_fo (tn_tnf T l) (k + 1)))), some (.int (nI k))]) dX9_takenBeside_53 rfl (Nat.le_of_ble_eq_true rfl) rfl rfl ?_
      refine ex_iinc (y := nI (k + 1)) (ls' := [some (.ref 55), some (.int (nI l)), some (.int (nI (tn_fo (tn_tnf T l) (k + 1)))), some (.int (nI (k + 1)))]) dX9_takenBeside_54 rfl rfl rfl (nI_add k 1) rfl ?_
      refine ex_goto (q := 4) dX9_takenBeside_57 rfl ?_
      exact ih (k + 1) (by omega)
    · have hb1 := b2i_n0.mp h19
      refine ex_aload_n dX9_takenBeside_22 rfl rfl ?_
      refine ex_iload_n dX9_takenBeside_23 rfl rfl ?_
      refine ex_callV (a := 55) (rest := [.int (nI (tn_fo (tn_tnf T l) k))]) dX9_takenBeside_24 rfl qp_8_89 rfl rfl rfl rfl rfl (Nat.le_of_ble_eq_true rfl) (k_isBuilt hT h (by omega)) (Nat.le_of_ble_eq_true rfl) ?_
      show Ex qm_lay _ mX9_takenBeside 27 [some (.ref 55), some (.int (nI l)), some (.int (nI (tn_fo (tn_tnf T l) k))), some (.int (nI k))] [.int (b2i ((tn_u T).testBit k)), .int (nI (tn_fo (tn_tnf T l) k))] σ _ _
      refine ex_if_eq (q := 51) (q2 := 30) dX9_takenBeside_27 rfl rfl (fun h27 => ?_) (fun h27 => ?_)
      · have hz : tn_tnf T l k = 0 := by rw [tn_tnf, if_neg (by rw [Nat.testBit_and, b2i_0.mp h27]; simp)]
        refine ex_iconst (x := 0) dX9_takenBeside_51 rfl rfl ?_
        refine ex_ior (z := nI (tn_fo (tn_tnf T l) (k + 1))) dX9_takenBeside_52 rfl (by rw [Int32.or_zero, tn_fo_0 hz]) ?_
        refine ex_istore_n (ls' := [some (.ref 55), some (.int (nI l)), some (.int (nI (tn_fo (tn_tnf T l) (k + 1)))), some (.int (nI k))]) dX9_takenBeside_53 rfl (Nat.le_of_ble_eq_true rfl) rfl rfl ?_
        refine ex_iinc (y := nI (k + 1)) (ls' := [some (.ref 55), some (.int (nI l)), some (.int (nI (tn_fo (tn_tnf T l) (k + 1)))), some (.int (nI (k + 1)))]) dX9_takenBeside_54 rfl rfl rfl (nI_add k 1) rfl ?_
        refine ex_goto (q := 4) dX9_takenBeside_57 rfl ?_
        exact ih (k + 1) (by omega)
      · have hb2 := b2i_n0.mp h27
        have hc11 := (hT.2.2.2 k (by omega)).2.2.2.2.1 hb2
        have hk5 := (hT.2.2.2 k (by omega)).1
        refine ex_aload_n dX9_takenBeside_30 rfl rfl ?_
        refine ex_getR (b := 56) dX9_takenBeside_31 rfl qp_8_7 rfl rfl ?_
        refine ex_iload_n dX9_takenBeside_34 rfl rfl ?_
        refine ex_iaload (k := k) (x := nI (tn_k T k)) dX9_takenBeside_35 rfl rfl (rfl) (by omega) (by decide) (MR.kk h (by omega)) ?_
        refine ex_iconst (x := 4) dX9_takenBeside_36 rfl rfl ?_
        refine ex_icmp_eq (q := 51) (q2 := 40) dX9_takenBeside_37 rfl rfl (fun h37 => ?_) (fun h37 => ?_)
        · have hz : tn_tnf T l k = 0 := by rw [tn_tnf, if_neg (by rw [(nI_eq (b := 4) (by omega) (by decide)).mp h37]; simp)]
          refine ex_iconst (x := 0) dX9_takenBeside_51 rfl rfl ?_
          refine ex_ior (z := nI (tn_fo (tn_tnf T l) (k + 1))) dX9_takenBeside_52 rfl (by rw [Int32.or_zero, tn_fo_0 hz]) ?_
          refine ex_istore_n (ls' := [some (.ref 55), some (.int (nI l)), some (.int (nI (tn_fo (tn_tnf T l) (k + 1)))), some (.int (nI k))]) dX9_takenBeside_53 rfl (Nat.le_of_ble_eq_true rfl) rfl rfl ?_
          refine ex_iinc (y := nI (k + 1)) (ls' := [some (.ref 55), some (.int (nI l)), some (.int (nI (tn_fo (tn_tnf T l) (k + 1)))), some (.int (nI (k + 1)))]) dX9_takenBeside_54 rfl rfl rfl (nI_add k 1) rfl ?_
          refine ex_goto (q := 4) dX9_takenBeside_57 rfl ?_
          exact ih (k + 1) (by omega)
        · have hne : tn_k T k ≠ 4 := fun z => h37 (congrArg nI z)
          have hp : tn_tnf T l k = 2 ^ tn_c T k := by rw [tn_tnf, if_pos (by simp [Nat.testBit_and, hb1, hb2, hne])]
          refine ex_iconst (x := 1) dX9_takenBeside_40 rfl rfl ?_
          refine ex_aload_n dX9_takenBeside_41 rfl rfl ?_
          refine ex_getR (b := 59) dX9_takenBeside_42 rfl qp_8_19 rfl rfl ?_
          refine ex_iload_n dX9_takenBeside_45 rfl rfl ?_
          refine ex_iaload (k := k) (x := nI (tn_c T k)) dX9_takenBeside_46 rfl rfl (rfl) (by omega) (by decide) (by rw [← tn_cv_b hb2]; exact MR.cc h (by omega)) ?_
          refine ex_ishl (z := nI (2 ^ tn_c T k)) dX9_takenBeside_47 rfl (nI_1shl (by omega)) ?_
          refine ex_goto (q := 52) dX9_takenBeside_48 rfl ?_
          refine ex_ior (z := nI (tn_fo (tn_tnf T l) (k + 1))) dX9_takenBeside_52 rfl (by rw [nI_or, tn_fo, hp]) ?_
          refine ex_istore_n (ls' := [some (.ref 55), some (.int (nI l)), some (.int (nI (tn_fo (tn_tnf T l) (k + 1)))), some (.int (nI k))]) dX9_takenBeside_53 rfl (Nat.le_of_ble_eq_true rfl) rfl rfl ?_
          refine ex_iinc (y := nI (k + 1)) (ls' := [some (.ref 55), some (.int (nI l)), some (.int (nI (tn_fo (tn_tnf T l) (k + 1)))), some (.int (nI (k + 1)))]) dX9_takenBeside_54 rfl rfl rfl (nI_add k 1) rfl ?_
          refine ex_goto (q := 4) dX9_takenBeside_57 rfl ?_
          exact ih (k + 1) (by omega)

theorem k_takenBeside {σ : qm_St} {T : tn_T} (hT : tn_ok T) (h : MR σ T) {l : Nat} (hl : l < tn_L T) : Ok qm_lay 1 mX9_takenBeside [.ref 55, .int (nI l)] σ (some (.int (nI (tn_tn T l)))) σ := by
  refine Ok.of (ls := [some (.ref 55), some (.int (nI l)), none, none]) (Nat.le_of_ble_eq_true rfl) rfl ?_
  refine ex_iconst (x := 0) dX9_takenBeside_0 rfl rfl ?_
  refine ex_istore_n (ls' := [some (.ref 55), some (.int (nI l)), some (.int 0), none]) dX9_takenBeside_1 rfl (Nat.le_of_ble_eq_true rfl) rfl rfl ?_
  refine ex_iconst (x := 0) dX9_takenBeside_2 rfl rfl ?_
  refine ex_istore_n (ls' := [some (.ref 55), some (.int (nI l)), some (.int 0), some (.int 0)]) dX9_takenBeside_3 rfl (Nat.le_of_ble_eq_true rfl) rfl rfl ?_
  exact l_takenBeside hT h hl (tn_L T) 0 (by omega)

set_option maxHeartbeats 2000000 in
theorem l_least {lay : List qm_LE} {σ : qm_St} {n : Nat} (hn : n < 4096) : ∀ (r : Nat) (k : Nat), k + r = 11 → (∀ j, j < k → n / 2 ^ j % 2 = 1) → Ex lay 0 mX9_least 2 [some (.int (nI n)), some (.int (nI k))] [] σ (some (.int (nI (tn_lo n)))) σ := by
  intro r
  induction r with
  | zero =>
    intro k hk hb
    refine ex_iload_n dX9_least_2 rfl rfl ?_
    refine ex_bipush (x := 11) dX9_least_3 rfl rfl ?_
    refine ex_icmp_ge (q := 23) (q2 := 8) dX9_least_5 rfl rfl (fun _ => ?_) (fun hh => absurd (nI_le (a := 11) (by omega) (by omega)) hh)
    refine ex_iload_n dX9_least_23 rfl rfl ?_
    exact ex_iret dX9_least_24 rfl (by rw [tn_lo_eq hb (by omega) (by first | exact Or.inl (by omega) | exact Or.inr (by have := Nat.mod_lt (n / 2 ^ k) (y := 2) (by decide); have : n / 2 ^ k % 2 ≠ 1 := (fun z => h14 (by rw [z]; rfl)); omega))]) rfl
  | succ r ih =>
    intro k hk hb
    refine ex_iload_n dX9_least_2 rfl rfl ?_
    refine ex_bipush (x := 11) dX9_least_3 rfl rfl ?_
    refine ex_icmp_ge (q := 23) (q2 := 8) dX9_least_5 rfl rfl (fun hh => absurd hh (nI_ge (b := 11) (by omega) (by omega))) (fun _ => ?_)
    refine ex_iload_n dX9_least_8 rfl rfl ?_
    refine ex_iload_n dX9_least_9 rfl rfl ?_
    refine ex_ishr (z := (nI n) >>> ((nI k) &&& 31)) dX9_least_10 rfl (rfl) ?_
    refine ex_iconst (x := 1) dX9_least_11 rfl rfl ?_
    refine ex_iand (z := nI (n / 2 ^ k % 2)) dX9_least_12 rfl (bit_n (by omega) (by omega)) ?_
    refine ex_iconst (x := 1) dX9_least_13 rfl rfl ?_
    refine ex_icmp_ne (q := 23) (q2 := 17) dX9_least_14 rfl rfl (fun h14 => ?_) (fun h14 => ?_)
    · refine ex_iload_n dX9_least_23 rfl rfl ?_
      exact ex_iret dX9_least_24 rfl (by rw [tn_lo_eq hb (by omega) (by first | exact Or.inl (by omega) | exact Or.inr (by have := Nat.mod_lt (n / 2 ^ k) (y := 2) (by decide); have : n / 2 ^ k % 2 ≠ 1 := (fun z => h14 (by rw [z]; rfl)); omega))]) rfl
    · have hb1 : n / 2 ^ k % 2 = 1 := by
        have h15 : nI (n / 2 ^ k % 2) = nI 1 := Decidable.not_not.mp h14
        exact (nI_eq (by have := Nat.mod_lt (n / 2 ^ k) (y := 2) (by decide); omega) (by decide)).mp h15
      refine ex_iinc (y := nI (k + 1)) (ls' := [some (.int (nI n)), some (.int (nI (k + 1)))]) dX9_least_17 rfl rfl rfl (nI_add k 1) rfl ?_
      refine ex_goto (q := 2) dX9_least_20 rfl ?_
      exact ih (k + 1) (by omega) (fun j hj => by
        rcases Nat.lt_or_ge j k with q | q
        · exact hb j q
        · rw [show j = k by omega]; exact hb1)

theorem k_least {lay : List qm_LE} {σ : qm_St} {n : Nat} (hn : n < 4096) : Ok lay 0 mX9_least [.int (nI n)] σ (some (.int (nI (tn_lo n)))) σ := by
  refine Ok.of (ls := [some (.int (nI n)), none]) (Nat.le_of_ble_eq_true rfl) rfl ?_
  refine ex_iconst (x := 0) dX9_least_0 rfl rfl ?_
  refine ex_istore_n (ls' := [some (.int (nI n)), some (.int 0)]) dX9_least_1 rfl (Nat.le_of_ble_eq_true rfl) rfl rfl ?_
  exact l_least hn 11 0 (by omega) (fun j hj => by omega)

set_option maxHeartbeats 2000000 in
theorem l_greatest {lay : List qm_LE} {σ : qm_St} {n : Nat} (hn : n < 4096) : ∀ (d : Nat), d ≤ 12 → n < 2 ^ d → ∃ g, Ex lay 0 mX9_greatest 3 [some (.int (nI n)), some (.int (nI d + (-1)))] [] σ (some (.int (nI g + (-1)))) σ ∧ g ≤ 12 ∧ n < 2 ^ g ∧ (g = 0 ∨ n / 2 ^ (g - 1) % 2 = 1) := by
  intro d
  induction d with
  | zero =>
    intro hd hlt
    refine ⟨0, ?_, by omega, hlt, Or.inl rfl⟩
    refine ex_iload_n dX9_greatest_3 rfl rfl ?_
    refine ex_if_lt (q := 21) (q2 := 7) dX9_greatest_4 rfl rfl (fun _ => ?_) (fun hh => absurd (by decide) hh)
    refine ex_iload_n dX9_greatest_21 rfl rfl ?_
    exact ex_iret dX9_greatest_22 rfl rfl rfl
  | succ d ih =>
    intro hd hlt
    by_cases hb : n / 2 ^ d % 2 = 1
    · refine ⟨d + 1, ?_, hd, hlt, Or.inr hb⟩
      refine Ex.of_ls (ls' := [some (.int (nI n)), some (.int (nI d))]) (by rw [pk_m1]) ?_
      rw [pk_m1]
      refine ex_iload_n dX9_greatest_3 rfl rfl ?_
      refine ex_if_lt (q := 21) (q2 := 7) dX9_greatest_4 rfl rfl (fun hh => absurd hh (nI_pos (by omega))) (fun _ => ?_)
      refine ex_iload_n dX9_greatest_7 rfl rfl ?_
      refine ex_iload_n dX9_greatest_8 rfl rfl ?_
      refine ex_ishr (z := (nI n) >>> ((nI d) &&& 31)) dX9_greatest_9 rfl (rfl) ?_
      refine ex_iconst (x := 1) dX9_greatest_10 rfl rfl ?_
      refine ex_iand (z := nI (n / 2 ^ d % 2)) dX9_greatest_11 rfl (bit_n (by omega) (by omega)) ?_
      refine ex_if_ne (q := 21) (q2 := 15) dX9_greatest_12 rfl rfl (fun _ => ?_) (fun hh => absurd (by rw [hb]; decide) hh)
      refine ex_iload_n dX9_greatest_21 rfl rfl ?_
      exact ex_iret dX9_greatest_22 rfl rfl rfl
    · have hb0 : n / 2 ^ d % 2 = 0 := by have := Nat.mod_lt (n / 2 ^ d) (y := 2) (by decide); omega
      have hlt2 : n < 2 ^ d := by
        rcases Nat.lt_or_ge n (2 ^ d) with q | q
        · exact q
        · have h1 : n / 2 ^ d = 1 := Nat.div_eq_of_lt_le (by omega) (by rw [Nat.pow_succ] at hlt; omega)
          rw [h1] at hb0; cases hb0
      obtain ⟨g, hE, hg⟩ := ih (by omega) hlt2
      refine ⟨g, ?_, hg⟩
      refine Ex.of_ls (ls' := [some (.int (nI n)), some (.int (nI d))]) (by rw [pk_m1]) ?_
      refine ex_iload_n dX9_greatest_3 rfl rfl ?_
      refine ex_if_lt (q := 21) (q2 := 7) dX9_greatest_4 rfl rfl (fun hh => absurd hh (nI_pos (by omega))) (fun _ => ?_)
      refine ex_iload_n dX9_greatest_7 rfl rfl ?_
      refine ex_iload_n dX9_greatest_8 rfl rfl ?_
      refine ex_ishr (z := (nI n) >>> ((nI d) &&& 31)) dX9_greatest_9 rfl (rfl) ?_
      refine ex_iconst (x := 1) dX9_greatest_10 rfl rfl ?_
      refine ex_iand (z := nI (n / 2 ^ d % 2)) dX9_greatest_11 rfl (bit_n (by omega) (by omega)) ?_
      refine ex_if_ne (q := 21) (q2 := 15) dX9_greatest_12 rfl rfl (fun hh => absurd hh (by rw [hb0]; decide)) (fun _ => ?_)
      refine ex_iinc (y := (nI d) + (-1)) (ls' := [some (.int (nI n)), some (.int ((nI d) + (-1)))]) dX9_greatest_15 rfl rfl rfl (rfl) rfl ?_
      refine ex_goto (q := 3) dX9_greatest_18 rfl ?_
      exact hE

set_option maxHeartbeats 2000000 in
theorem k_greatest {lay : List qm_LE} {σ : qm_St} {n : Nat} (hn : n < 4096) : ∃ g, Ok lay 0 mX9_greatest [.int (nI n)] σ (some (.int (nI g + (-1)))) σ ∧ g ≤ 12 ∧ tn_hi n = min 11 g := by
  obtain ⟨g, hE, hg, hlt, hb⟩ := l_greatest (lay := lay) (σ := σ) hn 12 (by omega) hn
  refine ⟨g, ?_, hg, tn_hi_eq hlt hg hb⟩
  refine Ok.of (ls := [some (.int (nI n)), none]) (Nat.le_of_ble_eq_true rfl) rfl ?_
  refine ex_bipush (x := 11) dX9_greatest_0 rfl rfl ?_
  refine ex_istore_n (ls' := [some (.int (nI n)), some (.int 11)]) dX9_greatest_2 rfl (Nat.le_of_ble_eq_true rfl) rfl rfl ?_
  exact hE

theorem tn_wn_hi {g : Nat} (hg : g ≤ 12) : tn_wn (nI g) 0 11 = nI (min 11 g) := by
  have h : ∀ g, g < 13 → tn_wn (nI g) 0 11 = nI (min 11 g) := by decide +kernel
  exact h g (by omega)
set_option maxHeartbeats 2000000 in
theorem k_wouldTake {σ : qm_St} {T : tn_T} (hT : tn_ok T) (h : MR σ T) {l : Nat} (hl : l < tn_L T) : Ok qm_lay 2 mX9_wouldTake [.ref 55, .int (nI l)] σ (some (.int (nI (tn_wd T l)))) σ := by
  have hL := hT.1
  have hm9 := (hT.2.2.2 l hl).2.1
  have hk5 := (hT.2.2.2 l hl).1
  have m5 : tn_m T l % 5 < 5 := Nat.mod_lt _ (by decide)
  have m4 : tn_m T l % 4 < 4 := Nat.mod_lt _ (by decide)
  have l0 := tn_tn_lt hT l
  have l1 : tn_tn T l ||| 1 < 4096 := Nat.or_lt_two_pow (n := 12) l0 (by decide)
  have l5 : tn_tn T l ||| 2 ^ (tn_m T l % 5) < 4096 := Nat.or_lt_two_pow (n := 12) l0 (Nat.pow_lt_pow_right (by omega) (by omega))
  have hpc := tn_pc_le _ l0
  obtain ⟨g, hg1, hg2, hg3⟩ := k_greatest (lay := qm_lay) (σ := σ) l0
  refine Ok.of (ls := [some (.ref 55), some (.int (nI l)), none, none]) (Nat.le_of_ble_eq_true rfl) rfl ?_
  have hk6 : tn_k T l = 0 ∨ tn_k T l = 1 ∨ tn_k T l = 2 ∨ tn_k T l = 3 ∨ tn_k T l = 4 ∨ tn_k T l = 5 := by omega
  rcases hk6 with hk | hk | hk | hk | hk | hk
  · refine ex_aload_n dX9_wouldTake_0 rfl rfl ?_
    refine ex_iload_n dX9_wouldTake_1 rfl rfl ?_
    refine ex_callV (a := 55) (rest := []) dX9_wouldTake_2 rfl qp_8_190 rfl rfl rfl rfl rfl (Nat.le_of_ble_eq_true rfl) (k_takenBeside hT h hl) (Nat.le_of_ble_eq_true rfl) ?_
    show Ex qm_lay _ mX9_wouldTake 5 [some (.ref 55), some (.int (nI l)), none, none] [.int (nI (tn_tn T l))] σ _ _
    refine ex_istore_n (ls' := [some (.ref 55), some (.int (nI l)), some (.int (nI (tn_tn T l))), none]) dX9_wouldTake_5 rfl (Nat.le_of_ble_eq_true rfl) rfl rfl ?_
    refine ex_aload_n dX9_wouldTake_6 rfl rfl ?_
    refine ex_getR (b := 56) dX9_wouldTake_7 rfl qp_8_7 rfl rfl ?_
    refine ex_iload_n dX9_wouldTake_10 rfl rfl ?_
    refine ex_iaload (k := l) (x := 0) dX9_wouldTake_11 rfl rfl (rfl) (by omega) (by decide) (by rw [MR.kk h hl, hk]; rfl) ?_
    refine ex_istore_n (ls' := [some (.ref 55), some (.int (nI l)), some (.int (nI (tn_tn T l))), some (.int 0)]) dX9_wouldTake_12 rfl (Nat.le_of_ble_eq_true rfl) rfl rfl ?_
    refine ex_iload_n dX9_wouldTake_13 rfl rfl ?_
    refine ex_iconst (x := 5) dX9_wouldTake_14 rfl rfl ?_
    refine ex_icmp_ne (q := 20) (q2 := 18) dX9_wouldTake_15 rfl rfl (fun _ => ?_) (fun hh => absurd (by decide) hh)
    refine ex_iload_n dX9_wouldTake_20 rfl rfl ?_
    refine ex_iconst (x := 3) dX9_wouldTake_21 rfl rfl ?_
    refine ex_icmp_ne (q := 53) (q2 := 25) dX9_wouldTake_22 rfl rfl (fun _ => ?_) (fun hh => absurd (by decide) hh)
    refine ex_iload_n dX9_wouldTake_53 rfl rfl ?_
    refine ex_iconst (x := 1) dX9_wouldTake_54 rfl rfl ?_
    refine ex_icmp_eq (q := 63) (q2 := 58) dX9_wouldTake_55 rfl rfl (fun hh => absurd hh (by decide)) (fun _ => ?_)
    refine ex_iload_n dX9_wouldTake_58 rfl rfl ?_
    refine ex_iconst (x := 3) dX9_wouldTake_59 rfl rfl ?_
    refine ex_icmp_ne (q := 69) (q2 := 63) dX9_wouldTake_60 rfl rfl (fun _ => ?_) (fun hh => absurd (by decide) hh)
    refine ex_iload_n dX9_wouldTake_69 rfl rfl ?_
    refine ex_iconst (x := 2) dX9_wouldTake_70 rfl rfl ?_
    refine ex_icmp_eq (q := 79) (q2 := 74) dX9_wouldTake_71 rfl rfl (fun hh => absurd hh (by decide)) (fun _ => ?_)
    refine ex_iload_n dX9_wouldTake_74 rfl rfl ?_
    refine ex_iconst (x := 4) dX9_wouldTake_75 rfl rfl ?_
    refine ex_icmp_ne (q := 94) (q2 := 79) dX9_wouldTake_76 rfl rfl (fun _ => ?_) (fun hh => absurd (by decide) hh)
    refine ex_iload_n dX9_wouldTake_94 rfl rfl ?_
    refine ex_callS (rest := []) dX9_wouldTake_95 rfl qp_8_196 rfl rfl rfl (Nat.le_of_ble_eq_true rfl) (k_least (by first | exact tn_tn_lt hT l | exact l1 | exact l5)) (Nat.le_of_ble_eq_true rfl) ?_
    show Ex qm_lay _ mX9_wouldTake 98 [some (.ref 55), some (.int (nI l)), some (.int (nI (tn_tn T l))), some (.int 0)] [.int (nI (tn_lo (tn_tn T l)))] σ _ _
    exact ex_iret dX9_wouldTake_98 rfl (by simp [tn_wd, tn_knf, hk]) rfl
  · refine ex_aload_n dX9_wouldTake_0 rfl rfl ?_
    refine ex_iload_n dX9_wouldTake_1 rfl rfl ?_
    refine ex_callV (a := 55) (rest := []) dX9_wouldTake_2 rfl qp_8_190 rfl rfl rfl rfl rfl (Nat.le_of_ble_eq_true rfl) (k_takenBeside hT h hl) (Nat.le_of_ble_eq_true rfl) ?_
    show Ex qm_lay _ mX9_wouldTake 5 [some (.ref 55), some (.int (nI l)), none, none] [.int (nI (tn_tn T l))] σ _ _
    refine ex_istore_n (ls' := [some (.ref 55), some (.int (nI l)), some (.int (nI (tn_tn T l))), none]) dX9_wouldTake_5 rfl (Nat.le_of_ble_eq_true rfl) rfl rfl ?_
    refine ex_aload_n dX9_wouldTake_6 rfl rfl ?_
    refine ex_getR (b := 56) dX9_wouldTake_7 rfl qp_8_7 rfl rfl ?_
    refine ex_iload_n dX9_wouldTake_10 rfl rfl ?_
    refine ex_iaload (k := l) (x := 1) dX9_wouldTake_11 rfl rfl (rfl) (by omega) (by decide) (by rw [MR.kk h hl, hk]; rfl) ?_
    refine ex_istore_n (ls' := [some (.ref 55), some (.int (nI l)), some (.int (nI (tn_tn T l))), some (.int 1)]) dX9_wouldTake_12 rfl (Nat.le_of_ble_eq_true rfl) rfl rfl ?_
    refine ex_iload_n dX9_wouldTake_13 rfl rfl ?_
    refine ex_iconst (x := 5) dX9_wouldTake_14 rfl rfl ?_
    refine ex_icmp_ne (q := 20) (q2 := 18) dX9_wouldTake_15 rfl rfl (fun _ => ?_) (fun hh => absurd (by decide) hh)
    refine ex_iload_n dX9_wouldTake_20 rfl rfl ?_
    refine ex_iconst (x := 3) dX9_wouldTake_21 rfl rfl ?_
    refine ex_icmp_ne (q := 53) (q2 := 25) dX9_wouldTake_22 rfl rfl (fun _ => ?_) (fun hh => absurd (by decide) hh)
    refine ex_iload_n dX9_wouldTake_53 rfl rfl ?_
    refine ex_iconst (x := 1) dX9_wouldTake_54 rfl rfl ?_
    refine ex_icmp_eq (q := 63) (q2 := 58) dX9_wouldTake_55 rfl rfl (fun _ => ?_) (fun hh => absurd (by decide) hh)
    refine ex_iload_n dX9_wouldTake_63 rfl rfl ?_
    refine ex_iconst (x := 1) dX9_wouldTake_64 rfl rfl ?_
    refine ex_ior (z := nI (tn_tn T l ||| 1)) dX9_wouldTake_65 rfl (nI_or _ 1) ?_
    refine ex_goto (q := 95) dX9_wouldTake_66 rfl ?_
    refine ex_callS (rest := []) dX9_wouldTake_95 rfl qp_8_196 rfl rfl rfl (Nat.le_of_ble_eq_true rfl) (k_least (by first | exact tn_tn_lt hT l | exact l1 | exact l5)) (Nat.le_of_ble_eq_true rfl) ?_
    show Ex qm_lay _ mX9_wouldTake 98 [some (.ref 55), some (.int (nI l)), some (.int (nI (tn_tn T l))), some (.int 1)] [.int (nI (tn_lo (tn_tn T l ||| 1)))] σ _ _
    exact ex_iret dX9_wouldTake_98 rfl (by simp [tn_wd, tn_knf, hk]) rfl
  · refine ex_aload_n dX9_wouldTake_0 rfl rfl ?_
    refine ex_iload_n dX9_wouldTake_1 rfl rfl ?_
    refine ex_callV (a := 55) (rest := []) dX9_wouldTake_2 rfl qp_8_190 rfl rfl rfl rfl rfl (Nat.le_of_ble_eq_true rfl) (k_takenBeside hT h hl) (Nat.le_of_ble_eq_true rfl) ?_
    show Ex qm_lay _ mX9_wouldTake 5 [some (.ref 55), some (.int (nI l)), none, none] [.int (nI (tn_tn T l))] σ _ _
    refine ex_istore_n (ls' := [some (.ref 55), some (.int (nI l)), some (.int (nI (tn_tn T l))), none]) dX9_wouldTake_5 rfl (Nat.le_of_ble_eq_true rfl) rfl rfl ?_
    refine ex_aload_n dX9_wouldTake_6 rfl rfl ?_
    refine ex_getR (b := 56) dX9_wouldTake_7 rfl qp_8_7 rfl rfl ?_
    refine ex_iload_n dX9_wouldTake_10 rfl rfl ?_
    refine ex_iaload (k := l) (x := 2) dX9_wouldTake_11 rfl rfl (rfl) (by omega) (by decide) (by rw [MR.kk h hl, hk]; rfl) ?_
    refine ex_istore_n (ls' := [some (.ref 55), some (.int (nI l)), some (.int (nI (tn_tn T l))), some (.int 2)]) dX9_wouldTake_12 rfl (Nat.le_of_ble_eq_true rfl) rfl rfl ?_
    refine ex_iload_n dX9_wouldTake_13 rfl rfl ?_
    refine ex_iconst (x := 5) dX9_wouldTake_14 rfl rfl ?_
    refine ex_icmp_ne (q := 20) (q2 := 18) dX9_wouldTake_15 rfl rfl (fun _ => ?_) (fun hh => absurd (by decide) hh)
    refine ex_iload_n dX9_wouldTake_20 rfl rfl ?_
    refine ex_iconst (x := 3) dX9_wouldTake_21 rfl rfl ?_
    refine ex_icmp_ne (q := 53) (q2 := 25) dX9_wouldTake_22 rfl rfl (fun _ => ?_) (fun hh => absurd (by decide) hh)
    refine ex_iload_n dX9_wouldTake_53 rfl rfl ?_
    refine ex_iconst (x := 1) dX9_wouldTake_54 rfl rfl ?_
    refine ex_icmp_eq (q := 63) (q2 := 58) dX9_wouldTake_55 rfl rfl (fun hh => absurd hh (by decide)) (fun _ => ?_)
    refine ex_iload_n dX9_wouldTake_58 rfl rfl ?_
    refine ex_iconst (x := 3) dX9_wouldTake_59 rfl rfl ?_
    refine ex_icmp_ne (q := 69) (q2 := 63) dX9_wouldTake_60 rfl rfl (fun _ => ?_) (fun hh => absurd (by decide) hh)
    refine ex_iload_n dX9_wouldTake_69 rfl rfl ?_
    refine ex_iconst (x := 2) dX9_wouldTake_70 rfl rfl ?_
    refine ex_icmp_eq (q := 79) (q2 := 74) dX9_wouldTake_71 rfl rfl (fun _ => ?_) (fun hh => absurd (by decide) hh)
    refine ex_iload_n dX9_wouldTake_79 rfl rfl ?_
    refine ex_iconst (x := 1) dX9_wouldTake_80 rfl rfl ?_
    refine ex_aload_n dX9_wouldTake_81 rfl rfl ?_
    refine ex_getR (b := 57) dX9_wouldTake_82 rfl qp_8_13 rfl rfl ?_
    refine ex_iload_n dX9_wouldTake_85 rfl rfl ?_
    refine ex_iaload (k := l) (x := nI (tn_m T l)) dX9_wouldTake_86 rfl rfl (rfl) (by omega) (by decide) (MR.mm h (by omega)) ?_
    refine ex_iconst (x := 5) dX9_wouldTake_87 rfl rfl ?_
    refine ex_irem (z := nI (tn_m T l % 5)) dX9_wouldTake_88 rfl (by decide) (pk_rem (by omega) (by decide) (by decide)) ?_
    refine ex_ishl (z := nI (2 ^ (tn_m T l % 5))) dX9_wouldTake_89 rfl (nI_1shl (by omega)) ?_
    refine ex_ior (z := nI (tn_tn T l ||| 2 ^ (tn_m T l % 5))) dX9_wouldTake_90 rfl (nI_or _ _) ?_
    refine ex_goto (q := 95) dX9_wouldTake_91 rfl ?_
    refine ex_callS (rest := []) dX9_wouldTake_95 rfl qp_8_196 rfl rfl rfl (Nat.le_of_ble_eq_true rfl) (k_least (by first | exact tn_tn_lt hT l | exact l1 | exact l5)) (Nat.le_of_ble_eq_true rfl) ?_
    show Ex qm_lay _ mX9_wouldTake 98 [some (.ref 55), some (.int (nI l)), some (.int (nI (tn_tn T l))), some (.int 2)] [.int (nI (tn_lo (tn_tn T l ||| 2 ^ (tn_m T l % 5))))] σ _ _
    exact ex_iret dX9_wouldTake_98 rfl (by simp [tn_wd, tn_knf, hk]) rfl
  · refine ex_aload_n dX9_wouldTake_0 rfl rfl ?_
    refine ex_iload_n dX9_wouldTake_1 rfl rfl ?_
    refine ex_callV (a := 55) (rest := []) dX9_wouldTake_2 rfl qp_8_190 rfl rfl rfl rfl rfl (Nat.le_of_ble_eq_true rfl) (k_takenBeside hT h hl) (Nat.le_of_ble_eq_true rfl) ?_
    show Ex qm_lay _ mX9_wouldTake 5 [some (.ref 55), some (.int (nI l)), none, none] [.int (nI (tn_tn T l))] σ _ _
    refine ex_istore_n (ls' := [some (.ref 55), some (.int (nI l)), some (.int (nI (tn_tn T l))), none]) dX9_wouldTake_5 rfl (Nat.le_of_ble_eq_true rfl) rfl rfl ?_
    refine ex_aload_n dX9_wouldTake_6 rfl rfl ?_
    refine ex_getR (b := 56) dX9_wouldTake_7 rfl qp_8_7 rfl rfl ?_
    refine ex_iload_n dX9_wouldTake_10 rfl rfl ?_
    refine ex_iaload (k := l) (x := 3) dX9_wouldTake_11 rfl rfl (rfl) (by omega) (by decide) (by rw [MR.kk h hl, hk]; rfl) ?_
    refine ex_istore_n (ls' := [some (.ref 55), some (.int (nI l)), some (.int (nI (tn_tn T l))), some (.int 3)]) dX9_wouldTake_12 rfl (Nat.le_of_ble_eq_true rfl) rfl rfl ?_
    refine ex_iload_n dX9_wouldTake_13 rfl rfl ?_
    refine ex_iconst (x := 5) dX9_wouldTake_14 rfl rfl ?_
    refine ex_icmp_ne (q := 20) (q2 := 18) dX9_wouldTake_15 rfl rfl (fun _ => ?_) (fun hh => absurd (by decide) hh)
    refine ex_iload_n dX9_wouldTake_20 rfl rfl ?_
    refine ex_iconst (x := 3) dX9_wouldTake_21 rfl rfl ?_
    refine ex_icmp_ne (q := 53) (q2 := 25) dX9_wouldTake_22 rfl rfl (fun hh => absurd hh (by decide)) (fun _ => ?_)
    refine ex_iload_n dX9_wouldTake_25 rfl rfl ?_
    refine ex_callS (rest := []) dX9_wouldTake_26 rfl qp_8_92 rfl rfl rfl (Nat.le_of_ble_eq_true rfl) (k_ones (tn_tn_lt hT l)) (Nat.le_of_ble_eq_true rfl) ?_
    show Ex qm_lay _ mX9_wouldTake 29 [some (.ref 55), some (.int (nI l)), some (.int (nI (tn_tn T l))), some (.int 3)] [.int (nI (tn_pc (tn_tn T l)))] σ _ _
    refine ex_aload_n dX9_wouldTake_29 rfl rfl ?_
    refine ex_getR (b := 57) dX9_wouldTake_30 rfl qp_8_13 rfl rfl ?_
    refine ex_iload_n dX9_wouldTake_33 rfl rfl ?_
    refine ex_iaload (k := l) (x := nI (tn_m T l)) dX9_wouldTake_34 rfl rfl (rfl) (by omega) (by decide) (MR.mm h (by omega)) ?_
    refine ex_iconst (x := 4) dX9_wouldTake_35 rfl rfl ?_
    refine ex_irem (z := nI (tn_m T l % 4)) dX9_wouldTake_36 rfl (by decide) (pk_rem (by omega) (by decide) (by decide)) ?_
    refine ex_icmp_le (q := 53) (q2 := 40) dX9_wouldTake_37 rfl rfl (fun h37 => ?_) (fun h37 => ?_)
    · refine ex_iload_n dX9_wouldTake_53 rfl rfl ?_
      refine ex_iconst (x := 1) dX9_wouldTake_54 rfl rfl ?_
      refine ex_icmp_eq (q := 63) (q2 := 58) dX9_wouldTake_55 rfl rfl (fun hh => absurd hh (by decide)) (fun _ => ?_)
      refine ex_iload_n dX9_wouldTake_58 rfl rfl ?_
      refine ex_iconst (x := 3) dX9_wouldTake_59 rfl rfl ?_
      refine ex_icmp_ne (q := 69) (q2 := 63) dX9_wouldTake_60 rfl rfl (fun hh => absurd hh (by decide)) (fun _ => ?_)
      refine ex_iload_n dX9_wouldTake_63 rfl rfl ?_
      refine ex_iconst (x := 1) dX9_wouldTake_64 rfl rfl ?_
      refine ex_ior (z := nI (tn_tn T l ||| 1)) dX9_wouldTake_65 rfl (nI_or _ 1) ?_
      refine ex_goto (q := 95) dX9_wouldTake_66 rfl ?_
      refine ex_callS (rest := []) dX9_wouldTake_95 rfl qp_8_196 rfl rfl rfl (Nat.le_of_ble_eq_true rfl) (k_least (by first | exact tn_tn_lt hT l | exact l1 | exact l5)) (Nat.le_of_ble_eq_true rfl) ?_
      show Ex qm_lay _ mX9_wouldTake 98 [some (.ref 55), some (.int (nI l)), some (.int (nI (tn_tn T l))), some (.int 3)] [.int (nI (tn_lo (tn_tn T l ||| 1)))] σ _ _
      exact ex_iret dX9_wouldTake_98 rfl (by rw [tn_wd, tn_knf, if_neg (by rw [hk]; decide), if_neg (by rw [hk]; decide), if_pos hk, if_neg (by have := (nI_leI (a := tn_pc (tn_tn T l)) (b := tn_m T l % 4) (by omega) (by omega)).mp h37; omega)]) rfl
    · refine ex_iload_n dX9_wouldTake_40 rfl rfl ?_
      refine ex_callS (rest := []) dX9_wouldTake_41 rfl qp_8_193 rfl rfl rfl (Nat.le_of_ble_eq_true rfl) (hg1) (Nat.le_of_ble_eq_true rfl) ?_
      show Ex qm_lay _ mX9_wouldTake 44 [some (.ref 55), some (.int (nI l)), some (.int (nI (tn_tn T l))), some (.int 3)] [.int (nI g + (-1))] σ _ _
      refine ex_iconst (x := 1) dX9_wouldTake_44 rfl rfl ?_
      refine ex_iadd (z := nI g) dX9_wouldTake_45 rfl (by rw [Int32.add_assoc]; exact (by rw [show (-1 : Int32) + 1 = 0 by decide, Int32.add_zero])) ?_
      refine ex_iconst (x := 0) dX9_wouldTake_46 rfl rfl ?_
      refine ex_bipush (x := 11) dX9_wouldTake_47 rfl rfl ?_
      refine ex_callS (rest := []) dX9_wouldTake_49 rfl qp_8_176 rfl rfl rfl (Nat.le_of_ble_eq_true rfl) (k_within _ _ _ _) (Nat.le_of_ble_eq_true rfl) ?_
      show Ex qm_lay _ mX9_wouldTake 52 [some (.ref 55), some (.int (nI l)), some (.int (nI (tn_tn T l))), some (.int 3)] [.int (tn_wn (nI g) 0 11)] σ _ _
      exact ex_iret dX9_wouldTake_52 rfl (by rw [tn_wd, tn_knf, if_neg (by rw [hk]; decide), if_neg (by rw [hk]; decide), if_pos hk, if_pos (by have := mt (nI_leI (a := tn_pc (tn_tn T l)) (b := tn_m T l % 4) (by omega) (by omega)).mpr h37; omega), hg3, tn_wn_hi hg2]) rfl
  · refine ex_aload_n dX9_wouldTake_0 rfl rfl ?_
    refine ex_iload_n dX9_wouldTake_1 rfl rfl ?_
    refine ex_callV (a := 55) (rest := []) dX9_wouldTake_2 rfl qp_8_190 rfl rfl rfl rfl rfl (Nat.le_of_ble_eq_true rfl) (k_takenBeside hT h hl) (Nat.le_of_ble_eq_true rfl) ?_
    show Ex qm_lay _ mX9_wouldTake 5 [some (.ref 55), some (.int (nI l)), none, none] [.int (nI (tn_tn T l))] σ _ _
    refine ex_istore_n (ls' := [some (.ref 55), some (.int (nI l)), some (.int (nI (tn_tn T l))), none]) dX9_wouldTake_5 rfl (Nat.le_of_ble_eq_true rfl) rfl rfl ?_
    refine ex_aload_n dX9_wouldTake_6 rfl rfl ?_
    refine ex_getR (b := 56) dX9_wouldTake_7 rfl qp_8_7 rfl rfl ?_
    refine ex_iload_n dX9_wouldTake_10 rfl rfl ?_
    refine ex_iaload (k := l) (x := 4) dX9_wouldTake_11 rfl rfl (rfl) (by omega) (by decide) (by rw [MR.kk h hl, hk]; rfl) ?_
    refine ex_istore_n (ls' := [some (.ref 55), some (.int (nI l)), some (.int (nI (tn_tn T l))), some (.int 4)]) dX9_wouldTake_12 rfl (Nat.le_of_ble_eq_true rfl) rfl rfl ?_
    refine ex_iload_n dX9_wouldTake_13 rfl rfl ?_
    refine ex_iconst (x := 5) dX9_wouldTake_14 rfl rfl ?_
    refine ex_icmp_ne (q := 20) (q2 := 18) dX9_wouldTake_15 rfl rfl (fun _ => ?_) (fun hh => absurd (by decide) hh)
    refine ex_iload_n dX9_wouldTake_20 rfl rfl ?_
    refine ex_iconst (x := 3) dX9_wouldTake_21 rfl rfl ?_
    refine ex_icmp_ne (q := 53) (q2 := 25) dX9_wouldTake_22 rfl rfl (fun _ => ?_) (fun hh => absurd (by decide) hh)
    refine ex_iload_n dX9_wouldTake_53 rfl rfl ?_
    refine ex_iconst (x := 1) dX9_wouldTake_54 rfl rfl ?_
    refine ex_icmp_eq (q := 63) (q2 := 58) dX9_wouldTake_55 rfl rfl (fun hh => absurd hh (by decide)) (fun _ => ?_)
    refine ex_iload_n dX9_wouldTake_58 rfl rfl ?_
    refine ex_iconst (x := 3) dX9_wouldTake_59 rfl rfl ?_
    refine ex_icmp_ne (q := 69) (q2 := 63) dX9_wouldTake_60 rfl rfl (fun _ => ?_) (fun hh => absurd (by decide) hh)
    refine ex_iload_n dX9_wouldTake_69 rfl rfl ?_
    refine ex_iconst (x := 2) dX9_wouldTake_70 rfl rfl ?_
    refine ex_icmp_eq (q := 79) (q2 := 74) dX9_wouldTake_71 rfl rfl (fun hh => absurd hh (by decide)) (fun _ => ?_)
    refine ex_iload_n dX9_wouldTake_74 rfl rfl ?_
    refine ex_iconst (x := 4) dX9_wouldTake_75 rfl rfl ?_
    refine ex_icmp_ne (q := 94) (q2 := 79) dX9_wouldTake_76 rfl rfl (fun hh => absurd hh (by decide)) (fun _ => ?_)
    refine ex_iload_n dX9_wouldTake_79 rfl rfl ?_
    refine ex_iconst (x := 1) dX9_wouldTake_80 rfl rfl ?_
    refine ex_aload_n dX9_wouldTake_81 rfl rfl ?_
    refine ex_getR (b := 57) dX9_wouldTake_82 rfl qp_8_13 rfl rfl ?_
    refine ex_iload_n dX9_wouldTake_85 rfl rfl ?_
    refine ex_iaload (k := l) (x := nI (tn_m T l)) dX9_wouldTake_86 rfl rfl (rfl) (by omega) (by decide) (MR.mm h (by omega)) ?_
    refine ex_iconst (x := 5) dX9_wouldTake_87 rfl rfl ?_
    refine ex_irem (z := nI (tn_m T l % 5)) dX9_wouldTake_88 rfl (by decide) (pk_rem (by omega) (by decide) (by decide)) ?_
    refine ex_ishl (z := nI (2 ^ (tn_m T l % 5))) dX9_wouldTake_89 rfl (nI_1shl (by omega)) ?_
    refine ex_ior (z := nI (tn_tn T l ||| 2 ^ (tn_m T l % 5))) dX9_wouldTake_90 rfl (nI_or _ _) ?_
    refine ex_goto (q := 95) dX9_wouldTake_91 rfl ?_
    refine ex_callS (rest := []) dX9_wouldTake_95 rfl qp_8_196 rfl rfl rfl (Nat.le_of_ble_eq_true rfl) (k_least (by first | exact tn_tn_lt hT l | exact l1 | exact l5)) (Nat.le_of_ble_eq_true rfl) ?_
    show Ex qm_lay _ mX9_wouldTake 98 [some (.ref 55), some (.int (nI l)), some (.int (nI (tn_tn T l))), some (.int 4)] [.int (nI (tn_lo (tn_tn T l ||| 2 ^ (tn_m T l % 5))))] σ _ _
    exact ex_iret dX9_wouldTake_98 rfl (by simp [tn_wd, tn_knf, hk]) rfl
  · refine ex_aload_n dX9_wouldTake_0 rfl rfl ?_
    refine ex_iload_n dX9_wouldTake_1 rfl rfl ?_
    refine ex_callV (a := 55) (rest := []) dX9_wouldTake_2 rfl qp_8_190 rfl rfl rfl rfl rfl (Nat.le_of_ble_eq_true rfl) (k_takenBeside hT h hl) (Nat.le_of_ble_eq_true rfl) ?_
    show Ex qm_lay _ mX9_wouldTake 5 [some (.ref 55), some (.int (nI l)), none, none] [.int (nI (tn_tn T l))] σ _ _
    refine ex_istore_n (ls' := [some (.ref 55), some (.int (nI l)), some (.int (nI (tn_tn T l))), none]) dX9_wouldTake_5 rfl (Nat.le_of_ble_eq_true rfl) rfl rfl ?_
    refine ex_aload_n dX9_wouldTake_6 rfl rfl ?_
    refine ex_getR (b := 56) dX9_wouldTake_7 rfl qp_8_7 rfl rfl ?_
    refine ex_iload_n dX9_wouldTake_10 rfl rfl ?_
    refine ex_iaload (k := l) (x := 5) dX9_wouldTake_11 rfl rfl (rfl) (by omega) (by decide) (by rw [MR.kk h hl, hk]; rfl) ?_
    refine ex_istore_n (ls' := [some (.ref 55), some (.int (nI l)), some (.int (nI (tn_tn T l))), some (.int 5)]) dX9_wouldTake_12 rfl (Nat.le_of_ble_eq_true rfl) rfl rfl ?_
    refine ex_iload_n dX9_wouldTake_13 rfl rfl ?_
    refine ex_iconst (x := 5) dX9_wouldTake_14 rfl rfl ?_
    refine ex_icmp_ne (q := 20) (q2 := 18) dX9_wouldTake_15 rfl rfl (fun hh => absurd hh (by decide)) (fun _ => ?_)
    refine ex_iconst (x := 0) dX9_wouldTake_18 rfl rfl ?_
    exact ex_iret dX9_wouldTake_19 rfl (by simp [tn_wd, tn_knf, hk]; rfl) rfl

set_option maxHeartbeats 2000000 in
theorem k_builds {σ : qm_St} {T : tn_T} (hT : tn_ok T) (h : MR σ T) {l : Nat} (hl : l < tn_L T) (c : Nat) : ∃ σ', Ok qm_lay 0 mX9_builds [.ref 55, .int (nI l), .int (nI c)] σ none σ' ∧ MR σ' (tn_put T l c) ∧ sm σ σ' 28 29 45 47 := by
  have hL := hT.1
  refine ⟨_, ?_, MR.put (c := c) hT h hl, (((sm.rf σ 28 29 45 47).wI _ (by omega)).wF _ (by omega)).wF _ (by omega)⟩
  refine Ok.of (ls := [some (.ref 55), some (.int (nI l)), some (.int (nI c))]) (Nat.le_of_ble_eq_true rfl) rfl ?_
  refine ex_aload_n dX9_builds_0 rfl rfl ?_
  refine ex_dup dX9_builds_1 rfl rfl ?_
  refine ex_getI (s := 28) (x := tn_n T) dX9_builds_2 rfl qp_8_199 rfl rfl (h.2.1) ?_
  refine ex_iconst (x := 1) dX9_builds_5 rfl rfl ?_
  refine ex_iadd (z := (tn_n T) + 1) dX9_builds_6 rfl (rfl) ?_
  refine ex_put (σ' := qm_wI σ 28 ((tn_n T) + 1)) dX9_builds_7 rfl qp_8_199 rfl rfl (Or.inl rfl) rfl ?_
  refine ex_aload_n dX9_builds_10 rfl rfl ?_
  refine ex_getR (b := 59) dX9_builds_11 rfl qp_8_19 rfl rfl ?_
  refine ex_iload_n dX9_builds_14 rfl rfl ?_
  refine ex_iload_n dX9_builds_15 rfl rfl ?_
  refine ex_iastore (k := l) (σ' := qm_wF (qm_wI σ 28 ((tn_n T) + 1)) 45 l (nI c)) dX9_builds_16 rfl rfl (rfl) (by omega) (by decide) rfl ?_
  refine ex_aload_n dX9_builds_17 rfl rfl ?_
  refine ex_getR (b := 60) dX9_builds_18 rfl qp_8_22 rfl rfl ?_
  refine ex_iload_n dX9_builds_21 rfl rfl ?_
  refine ex_aload_n dX9_builds_22 rfl rfl ?_
  refine ex_getI (s := 28) (x := (tn_n T) + 1) dX9_builds_23 rfl qp_8_199 rfl rfl (rfl) ?_
  refine ex_iastore (k := l) (σ' := qm_wF (qm_wF (qm_wI σ 28 ((tn_n T) + 1)) 45 l (nI c)) 46 l ((tn_n T) + 1)) dX9_builds_26 rfl rfl (rfl) (by omega) (by decide) rfl ?_
  exact ex_vret dX9_builds_27 rfl rfl rfl

