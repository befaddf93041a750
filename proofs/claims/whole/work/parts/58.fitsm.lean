/-! ===== which orders fit: the other side ===== -/
/-- what is known of the houses alone -/
def MW (σ : qm_St) (T : tn_T) : Prop := MS σ T ∧ ∀ l, l < tn_L T → qm_rF σ 44 l = nI (tn_b T l) ∧ qm_rF σ 45 l = tn_cv T l
theorem MW.kk {σ : qm_St} {T : tn_T} (h : MW σ T) {l : Nat} (hl : l < tn_L T) : qm_rF σ 42 l = nI (tn_k T l) := (h.1.2.2 l hl).1
theorem MW.mm {σ : qm_St} {T : tn_T} (h : MW σ T) {l : Nat} (hl : l < tn_L T) : qm_rF σ 43 l = nI (tn_m T l) := (h.1.2.2 l hl).2
theorem MW.bb {σ : qm_St} {T : tn_T} (h : MW σ T) {l : Nat} (hl : l < tn_L T) : qm_rF σ 44 l = nI (tn_b T l) := (h.2 l hl).1
theorem MW.cc {σ : qm_St} {T : tn_T} (h : MW σ T) {l : Nat} (hl : l < tn_L T) : qm_rF σ 45 l = tn_cv T l := (h.2 l hl).2
def tn_su (T : tn_T) (S : Nat) : tn_T := (tn_L T, tn_w T, tn_n T, S, tn_k T, tn_m T, tn_b T, tn_c T, tn_s T)
theorem su_ok {T : tn_T} (hT : tn_ok T) {S : Nat} (h1 : S < 2 ^ tn_L T) (h2 : ∀ l, S.testBit l = true → (tn_u T).testBit l = true) : tn_ok (tn_su T S) := by
  refine ⟨hT.1, hT.2.1, h1, fun l hl => ?_⟩
  obtain ⟨g1, g2, g3, g4, g5, g6⟩ := hT.2.2.2 l hl
  exact ⟨g1, g2, g3, g4, fun hb => g5 (h2 l hb), g6⟩
/-- whether a lot, behind others, takes its own colour -/
def okR (T : tn_T) (out s l : Nat) : Bool := out.testBit l || decide (tn_wd (tn_su T s) l = tn_c T l)
theorem nI_dec {a b : Nat} (ha : a < 2 ^ 31) (hb : b < 2 ^ 31) : decide (nI a = nI b) = decide (a = b) := decide_eq_decide.mpr (nI_eq ha hb)
theorem co_okR {T : tn_T} (hT : tn_ok T) {out : Nat} {du : Nat → Int32} (hdu : ∀ q, q < tn_L T → (tn_u T).testBit q = true → du q = nI (tn_c T q)) {s l : Nat} (h1 : s < 2 ^ tn_L T) (h2 : ∀ l, s.testBit l = true → (tn_u T).testBit l = true) (hl : l < tn_L T) (hb : (tn_u T).testBit l = true) : co T 0 out du s l = okR T out s l := by
  have h := su_ok hT h1 h2
  unfold co okR
  rw [Nat.zero_or, hdu l hl hb]
  have e : tn_am T l s du = nI (tn_wd (tn_su T s) l) := tn_am_wd (T := tn_su T s) h (fun o ho hz => hdu o ho (h2 o hz))
  have hc := (hT.2.2.2 l hl).2.2.2.2.1 hb
  have hw := tn_wd_le h l
  rw [e, nI_dec (by omega) (by omega)]
theorem fo_cong {ok1 ok2 : Nat → Nat → Bool} {L u : Nat} (hu : u < 2 ^ L) (h : ∀ s l, s < 2 ^ L → (∀ l, s.testBit l = true → u.testBit l = true) → u.testBit l = true → ok1 s l = ok2 s l) : ∀ (os : List Nat) (s : Nat), s < 2 ^ L → (∀ l, s.testBit l = true → u.testBit l = true) → (∀ l ∈ os, u.testBit l = true) → fo ok1 s os = fo ok2 s os
  | [], _, _, _, _ => rfl
  | l :: os, s, h1, h2, h3 => by
    show (ok1 s l && fo ok1 (s ||| 2 ^ l) os) = (ok2 s l && fo ok2 (s ||| 2 ^ l) os)
    have hb := h3 l List.mem_cons_self
    have hl : l < L := bit_lt hu hb
    rw [h s l h1 h2 hb, fo_cong hu h os (s ||| 2 ^ l) (Nat.or_lt_two_pow h1 (Nat.pow_lt_pow_right (by omega) hl)) (fun j hj => by
      rw [Nat.testBit_or, tb_2, Bool.or_eq_true] at hj
      rcases hj with hj | hj
      · exact h2 j hj
      · rw [← of_decide_eq_true hj]; exact hb) (fun j hj => h3 j (List.mem_cons_of_mem _ hj))]
theorem cp_cong {p q : List Nat → Bool} : ∀ {A : List (List Nat)}, (∀ a ∈ A, p a = q a) → cp p A = cp q A ∧ fs p A = fs q A
  | [], _ => ⟨rfl, rfl⟩
  | a :: A, h => by
    obtain ⟨h1, h2⟩ := cp_cong (A := A) (fun b hb => h b (List.mem_cons_of_mem _ hb))
    show (if p a = true then 1 else 0) + cp p A = (if q a = true then 1 else 0) + cp q A ∧ (if p a = true then some a else fs p A) = if q a = true then some a else fs q A
    rw [h a List.mem_cons_self, h1, h2]
    exact ⟨rfl, rfl⟩
theorem sd_r0 {r : Nat} (hr : r < 128) : sd r 0 = r := and_127 r hr
theorem wv_cong {ok1 ok2 : Nat → Nat → Bool} {L u : Nat} (hL : L ≤ 7) (hu : u < 2 ^ L) (h : ∀ s l, s < 2 ^ L → (∀ l, s.testBit l = true → u.testBit l = true) → u.testBit l = true → ok1 s l = ok2 s l) : wv ok1 L u 0 = wv ok2 L u 0 ∧ fv ok1 L u 0 = fv ok2 L u 0 := by
  have h128 : 2 ^ L ≤ 128 := Nat.pow_le_pow_right (n := 2) (by omega) hL
  refine cp_cong (fun os ho => ?_)
  rw [sd_r0 (by omega), bl_7 hL hu] at ho
  exact fo_cong hu h os 0 (Nat.two_pow_pos L) (fun l hl => by rw [Nat.zero_testBit] at hl; cases hl) (fun l hl => ((pm_el 7 u (by omega) (bl_len u) os ho).2 l hl).2)
theorem drop_getD {os : List Nat} {k : Nat} (hk : k < os.length) : os.drop k = os.getD k 0 :: os.drop (k + 1) := by
  rw [List.drop_eq_getElem_cons hk, List.getD_eq_getElem?_getD, List.getElem?_eq_getElem hk]
  rfl
/-- the digits of the first that fits, so much being known -/
def gF (p : List Nat → Bool) (A : List (List Nat)) (m : Nat) (F : Int32) : Int32 := if m = 0 then (fs p A).elim F (fun q => nI (dg q)) else F
theorem gF_t {p : List Nat → Bool} {os : List Nat} {ps : List (List Nat)} {m : Nat} {F : Int32} (h : p os = true) : gF p (os :: ps) m F = gF p ps (m + 1) (if m = 0 then nI (dg os) else F) := by
  unfold gF
  rw [if_neg (Nat.succ_ne_zero m)]
  show (if m = 0 then (if p os = true then some os else fs p ps).elim F (fun q => nI (dg q)) else F) = _
  rw [if_pos h]
  rfl
theorem gF_f {p : List Nat → Bool} {os : List Nat} {ps : List (List Nat)} {m : Nat} {F : Int32} (h : p os = false) : gF p (os :: ps) m F = gF p ps m F := by
  unfold gF
  show (if m = 0 then (if p os = true then some os else fs p ps).elim F (fun q => nI (dg q)) else F) = _
  rw [h, if_neg (show ¬ (false = true) by decide)]

theorem kw_areBeside {σ : qm_St} {T : tn_T} (hT : tn_ok T) (h : MW σ T) {x y : Nat} (hx : x < tn_L T) (hy : y < tn_L T) : Ok qm_lay 0 mX9_areBeside [.ref 55, .int (nI x), .int (nI y)] σ (some (.int (b2i ((tn_b T x).testBit y)))) σ := by
  refine Ok.of (ls := [some (.ref 55), some (.int (nI x)), some (.int (nI y))]) (Nat.le_of_ble_eq_true rfl) rfl ?_
  have hL := hT.1
  have hbx := tn_b_lt hT hx
  refine ex_aload_n dX9_areBeside_0 rfl rfl ?_
  refine ex_getR (b := 58) dX9_areBeside_1 rfl qp_8_16 rfl rfl ?_
  refine ex_iload_n dX9_areBeside_4 rfl rfl ?_
  refine ex_iaload (k := x) (x := nI (tn_b T x)) dX9_areBeside_5 rfl rfl (rfl) (by omega) (by decide) (MW.bb h (by omega)) ?_
  refine ex_iload_n dX9_areBeside_6 rfl rfl ?_
  refine ex_ishr (z := (nI (tn_b T x)) >>> ((nI y) &&& 31)) dX9_areBeside_7 rfl (rfl) ?_
  refine ex_iconst (x := 1) dX9_areBeside_8 rfl rfl ?_
  refine ex_iand (z := b2i ((tn_b T x).testBit y)) dX9_areBeside_9 rfl (nI_bit (by omega) (by omega)) ?_
  refine ex_iconst (x := 1) dX9_areBeside_10 rfl rfl ?_
  refine ex_icmp_ne (q := 18) (q2 := 14) dX9_areBeside_11 rfl rfl (fun h11 => ?_) (fun h11 => ?_)
  · refine ex_iconst (x := 0) dX9_areBeside_18 rfl rfl ?_
    exact ex_zret dX9_areBeside_19 rfl (by decide) (by first | exact b2i_f (b2i_n1.mp h11) | exact b2i_t (b2i_1.mp (Decidable.not_not.mp h11))) rfl
  · refine ex_iconst (x := 1) dX9_areBeside_14 rfl rfl ?_
    refine ex_goto (q := 19) dX9_areBeside_15 rfl ?_
    exact ex_zret dX9_areBeside_19 rfl (by decide) (by first | exact b2i_f (b2i_n1.mp h11) | exact b2i_t (b2i_1.mp (Decidable.not_not.mp h11))) rfl
theorem kw_isBuilt {σ : qm_St} {T : tn_T} (hT : tn_ok T) (h : MW σ T) {l : Nat} (hl : l < tn_L T) : Ok qm_lay 0 mX9_isBuilt [.ref 55, .int (nI l)] σ (some (.int (b2i ((tn_u T).testBit l)))) σ := by
  refine Ok.of (ls := [some (.ref 55), some (.int (nI l))]) (Nat.le_of_ble_eq_true rfl) rfl ?_
  have hL := hT.1
  refine ex_aload_n dX9_isBuilt_0 rfl rfl ?_
  refine ex_getR (b := 59) dX9_isBuilt_1 rfl qp_8_19 rfl rfl ?_
  refine ex_iload_n dX9_isBuilt_4 rfl rfl ?_
  refine ex_iaload (k := l) (x := tn_cv T l) dX9_isBuilt_5 rfl rfl (rfl) (by omega) (by decide) (MW.cc h (by omega)) ?_
  refine ex_iconst (x := (-1)) dX9_isBuilt_6 rfl rfl ?_
  refine ex_icmp_eq (q := 14) (q2 := 10) dX9_isBuilt_7 rfl rfl (fun h7 => ?_) (fun h7 => ?_)
  · refine ex_iconst (x := 0) dX9_isBuilt_14 rfl rfl ?_
    exact ex_zret dX9_isBuilt_15 rfl (by decide) (by first | exact b2i_f ((tn_cv_m1 hT hl).mp h7) | exact b2i_t (by simpa using (fun z => h7 ((tn_cv_m1 hT hl).mpr z)))) rfl
  · refine ex_iconst (x := 1) dX9_isBuilt_10 rfl rfl ?_
    refine ex_goto (q := 15) dX9_isBuilt_11 rfl ?_
    exact ex_zret dX9_isBuilt_15 rfl (by decide) (by first | exact b2i_f ((tn_cv_m1 hT hl).mp h7) | exact b2i_t (by simpa using (fun z => h7 ((tn_cv_m1 hT hl).mpr z)))) rfl
theorem lw_takenBeside {σ : qm_St} {T : tn_T} (hT : tn_ok T) (h : MW σ T) {l : Nat} (hl : l < tn_L T) : ∀ (n : Nat) (k : Nat), k + n = tn_L T → Ex qm_lay 1 mX9_takenBeside 4 [some (.ref 55), some (.int (nI l)), some (.int (nI (tn_fo (tn_tnf T l) k))), some (.int (nI k))] [] σ (some (.int (nI (tn_tn T l)))) σ := by
  have hL := hT.1
  intro n
  induction n with
  | zero =>
    intro k hk
    refine ex_iload_n dX9_takenBeside_4 rfl rfl ?_
    refine ex_aload_n dX9_takenBeside_5 rfl rfl ?_
    refine ex_getI (s := 27) (x := nI (tn_L T)) dX9_takenBeside_6 rfl qp_8_78 rfl rfl (h.1.1) ?_
    refine ex_icmp_ge (q := 60) (q2 := 12) dX9_takenBeside_9 rfl rfl (fun _ => ?_) (fun hh => absurd (nI_le (by omega) (by omega)) hh)
    refine ex_iload_n dX9_takenBeside_60 rfl rfl ?_
    exact ex_iret dX9_takenBeside_61 rfl (by rw [show k = tn_L T by omega]; rfl) rfl
  | succ n ih =>
    intro k hk
    refine ex_iload_n dX9_takenBeside_4 rfl rfl ?_
    refine ex_aload_n dX9_takenBeside_5 rfl rfl ?_
    refine ex_getI (s := 27) (x := nI (tn_L T)) dX9_takenBeside_6 rfl qp_8_78 rfl rfl (h.1.1) ?_
    refine ex_icmp_ge (q := 60) (q2 := 12) dX9_takenBeside_9 rfl rfl (fun hh => absurd hh (nI_ge (by omega) (by omega))) (fun _ => ?_)
    refine ex_iload_n dX9_takenBeside_12 rfl rfl ?_
    refine ex_aload_n dX9_takenBeside_13 rfl rfl ?_
    refine ex_iload_n dX9_takenBeside_14 rfl rfl ?_
    refine ex_iload_n dX9_takenBeside_15 rfl rfl ?_
    refine ex_callV (a := 55) (rest := [.int (nI (tn_fo (tn_tnf T l) k))]) dX9_takenBeside_16 rfl qp_8_186 rfl rfl rfl rfl rfl (Nat.le_of_ble_eq_true rfl) (kw_areBeside hT h hl (by omega)) (Nat.le_of_ble_eq_true rfl) ?_
    show Ex qm_lay _ mX9_takenBeside 19 [some (.ref 55), some (.int (nI l)), some (.int (nI (tn_fo (tn_tnf T l) k))), some (.int (nI k))] [.int (b2i ((tn_b T l).testBit k)), .int (nI (tn_fo (tn_tnf T l) k))] σ _ _
    refine ex_if_eq (q := 51) (q2 := 22) dX9_takenBeside_19 rfl rfl (fun h19 => ?_) (fun h19 => ?_)
    · have hz : tn_tnf T l k = 0 := by rw [tn_tnf, if_neg (by rw [Nat.testBit_and, b2i_0.mp h19]; simp)]
      refine ex_iconst (x := 0) dX9_takenBeside_51 rfl rfl ?_
      refine ex_ior (z := nI (tn_fo (tn_tnf T l) (k + 1))) dX9_takenBeside_52 rfl (by rw [Int32.or_zero, tn_fo_0 hz]) ?_
      refine ex_istore_n (ls' := [some (.ref 55), some (.int (nI l)), some (.int (nI (tn_fo (tn_tnf T l) (k + 1)))), some (.int (nI k))]) dX9_takenBeside_53 rfl (Nat.le_of_ble_eq_true rfl) rfl rfl ?_
      refine ex_iinc (y := nI (k + 1)) (ls' := [some (.ref 55), some (.int (nI l)), some (.int (nI (tn_fo (tn_tnf T l) (k + 1)))), some (.int (nI (k + 1)))]) dX9_takenBeside_54 rfl rfl rfl (nI_add k 1) rfl ?_
      refine ex_goto (q := 4) dX9_takenBeside_57 rfl ?_
      exact ih (k + 1) (by omega)
    · have hb1 := b2i_n0.mp h19
      refine ex_aload_n dX9_takenBeside_22 rfl rfl ?_
      refine ex_iload_n dX9_takenBeside_23 rfl rfl ?_
      refine ex_callV (a := 55) (rest := [.int (nI (tn_fo (tn_tnf T l) k))]) dX9_takenBeside_24 rfl qp_8_89 rfl rfl rfl rfl rfl (Nat.le_of_ble_eq_true rfl) (kw_isBuilt hT h (by omega)) (Nat.le_of_ble_eq_true rfl) ?_
      show Ex qm_lay _ mX9_takenBeside 27 [some (.ref 55), some (.int (nI l)), some (.int (nI (tn_fo (tn_tnf T l) k))), some (.int (nI k))] [.int (b2i ((tn_u T).testBit k)), .int (nI (tn_fo (tn_tnf T l) k))] σ _ _
      refine ex_if_eq (q := 51) (q2 := 30) dX9_takenBeside_27 rfl rfl (fun h27 => ?_) (fun h27 => ?_)
      · have hz : tn_tnf T l k = 0 := by rw [tn_tnf, if_neg (by rw [Nat.testBit_and, b2i_0.mp h27]; simp)]
        refine ex_iconst (x := 0) dX9_takenBeside_51 rfl rfl ?_
        refine ex_ior (z := nI (tn_fo (tn_tnf T l) (k + 1))) dX9_takenBeside_52 rfl (by rw [Int32.or_zero, tn_fo_0 hz]) ?_
        refine ex_istore_n (ls' := [some (.ref 55), some (.int (nI l)), some (.int (nI (tn_fo (tn_tnf T l) (k + 1)))), some (.int (nI k))]) dX9_takenBeside_53 rfl (Nat.le_of_ble_eq_true rfl) rfl rfl ?_
        refine ex_iinc (y := nI (k + 1)) (ls' := [some (.ref 55), some (.int (nI l)), some (.int (nI (tn_fo (tn_tnf T l) (k + 1)))), some (.int (nI (k + 1)))]) dX9_takenBeside_54 rfl rfl rfl (nI_add k 1) rfl ?_
        refine ex_goto (q := 4) dX9_takenBeside_57 rfl ?_
        exact ih (k + 1) (by omega)
      · have hb2 := b2i_n0.mp h27
        have hc11 := (hT.2.2.2 k (by omega)).2.2.2.2.1 hb2
        have hk5 := (hT.2.2.2 k (by omega)).1
        refine ex_aload_n dX9_takenBeside_30 rfl rfl ?_
        refine ex_getR (b := 56) dX9_takenBeside_31 rfl qp_8_7 rfl rfl ?_
        refine ex_iload_n dX9_takenBeside_34 rfl rfl ?_
        refine ex_iaload (k := k) (x := nI (tn_k T k)) dX9_takenBeside_35 rfl rfl (rfl) (by omega) (by decide) (MW.kk h (by omega)) ?_
        refine ex_iconst (x := 4) dX9_takenBeside_36 rfl rfl ?_
        refine ex_icmp_eq (q := 51) (q2 := 40) dX9_takenBeside_37 rfl rfl (fun h37 => ?_) (fun h37 => ?_)
        · have hz : tn_tnf T l k = 0 := by rw [tn_tnf, if_neg (by rw [(nI_eq (b := 4) (by omega) (by decide)).mp h37]; simp)]
          refine ex_iconst (x := 0) dX9_takenBeside_51 rfl rfl ?_
          refine ex_ior (z := nI (tn_fo (tn_tnf T l) (k + 1))) dX9_takenBeside_52 rfl (by rw [Int32.or_zero, tn_fo_0 hz]) ?_
          refine ex_istore_n (ls' := [some (.ref 55), some (.int (nI l)), some (.int (nI (tn_fo (tn_tnf T l) (k + 1)))), some (.int (nI k))]) dX9_takenBeside_53 rfl (Nat.le_of_ble_eq_true rfl) rfl rfl ?_
          refine ex_iinc (y := nI (k + 1)) (ls' := [some (.ref 55), some (.int (nI l)), some (.int (nI (tn_fo (tn_tnf T l) (k + 1)))), some (.int (nI (k + 1)))]) dX9_takenBeside_54 rfl rfl rfl (nI_add k 1) rfl ?_
          refine ex_goto (q := 4) dX9_takenBeside_57 rfl ?_
          exact ih (k + 1) (by omega)
        · have hne : tn_k T k ≠ 4 := fun z => h37 (congrArg nI z)
          have hp : tn_tnf T l k = 2 ^ tn_c T k := by rw [tn_tnf, if_pos (by simp [Nat.testBit_and, hb1, hb2, hne])]
          refine ex_iconst (x := 1) dX9_takenBeside_40 rfl rfl ?_
          refine ex_aload_n dX9_takenBeside_41 rfl rfl ?_
          refine ex_getR (b := 59) dX9_takenBeside_42 rfl qp_8_19 rfl rfl ?_
          refine ex_iload_n dX9_takenBeside_45 rfl rfl ?_
          refine ex_iaload (k := k) (x := nI (tn_c T k)) dX9_takenBeside_46 rfl rfl (rfl) (by omega) (by decide) (by rw [← tn_cv_b hb2]; exact MW.cc h (by omega)) ?_
          refine ex_ishl (z := nI (2 ^ tn_c T k)) dX9_takenBeside_47 rfl (nI_1shl (by omega)) ?_
          refine ex_goto (q := 52) dX9_takenBeside_48 rfl ?_
          refine ex_ior (z := nI (tn_fo (tn_tnf T l) (k + 1))) dX9_takenBeside_52 rfl (by rw [nI_or, tn_fo, hp]) ?_
          refine ex_istore_n (ls' := [some (.ref 55), some (.int (nI l)), some (.int (nI (tn_fo (tn_tnf T l) (k + 1)))), some (.int (nI k))]) dX9_takenBeside_53 rfl (Nat.le_of_ble_eq_true rfl) rfl rfl ?_
          refine ex_iinc (y := nI (k + 1)) (ls' := [some (.ref 55), some (.int (nI l)), some (.int (nI (tn_fo (tn_tnf T l) (k + 1)))), some (.int (nI (k + 1)))]) dX9_takenBeside_54 rfl rfl rfl (nI_add k 1) rfl ?_
          refine ex_goto (q := 4) dX9_takenBeside_57 rfl ?_
          exact ih (k + 1) (by omega)
theorem kw_takenBeside {σ : qm_St} {T : tn_T} (hT : tn_ok T) (h : MW σ T) {l : Nat} (hl : l < tn_L T) : Ok qm_lay 1 mX9_takenBeside [.ref 55, .int (nI l)] σ (some (.int (nI (tn_tn T l)))) σ := by
  refine Ok.of (ls := [some (.ref 55), some (.int (nI l)), none, none]) (Nat.le_of_ble_eq_true rfl) rfl ?_
  refine ex_iconst (x := 0) dX9_takenBeside_0 rfl rfl ?_
  refine ex_istore_n (ls' := [some (.ref 55), some (.int (nI l)), some (.int 0), none]) dX9_takenBeside_1 rfl (Nat.le_of_ble_eq_true rfl) rfl rfl ?_
  refine ex_iconst (x := 0) dX9_takenBeside_2 rfl rfl ?_
  refine ex_istore_n (ls' := [some (.ref 55), some (.int (nI l)), some (.int 0), some (.int 0)]) dX9_takenBeside_3 rfl (Nat.le_of_ble_eq_true rfl) rfl rfl ?_
  exact lw_takenBeside hT h hl (tn_L T) 0 (by omega)
theorem kw_wouldTake {σ : qm_St} {T : tn_T} (hT : tn_ok T) (h : MW σ T) {l : Nat} (hl : l < tn_L T) : Ok qm_lay 2 mX9_wouldTake [.ref 55, .int (nI l)] σ (some (.int (nI (tn_wd T l)))) σ := by
  have hL := hT.1
  have hm9 := (hT.2.2.2 l hl).2.1
  have hk5 := (hT.2.2.2 l hl).1
  have m5 : tn_m T l % 5 < 5 := Nat.mod_lt _ (by decide)
  have m4 : tn_m T l % 4 < 4 := Nat.mod_lt _ (by decide)
  have l0 := tn_tn_lt hT l
  have l1 : tn_tn T l ||| 1 < 4096 := Nat.or_lt_two_pow (n := 12) l0 (by decide)
  have l5 : tn_tn T l ||| 2 ^ (tn_m T l % 5) < 4096 := Nat.or_lt_two_pow (n := 12) l0 (Nat.pow_lt_pow_right (by omega) (by omega))
  have hpc := tn_pc_le _ l0
  obtain ⟨g, hg1, hg2, hg3⟩ := k_greatest (lay := qm_lay) (σ := σ) l0
  refine Ok.of (ls := [some (.ref 55), some (.int (nI l)), none, none]) (Nat.le_of_ble_eq_true rfl) rfl ?_
  have hk6 : tn_k T l = 0 ∨ tn_k T l = 1 ∨ tn_k T l = 2 ∨ tn_k T l = 3 ∨ tn_k T l = 4 ∨ tn_k T l = 5 := by omega
  rcases hk6 with hk | hk | hk | hk | hk | hk
  · refine ex_aload_n dX9_wouldTake_0 rfl rfl ?_
    refine ex_iload_n dX9_wouldTake_1 rfl rfl ?_
    refine ex_callV (a := 55) (rest := []) dX9_wouldTake_2 rfl qp_8_190 rfl rfl rfl rfl rfl (Nat.le_of_ble_eq_true rfl) (kw_takenBeside hT h hl) (Nat.le_of_ble_eq_true rfl) ?_
    show Ex qm_lay _ mX9_wouldTake 5 [some (.ref 55), some (.int (nI l)), none, none] [.int (nI (tn_tn T l))] σ _ _
    refine ex_istore_n (ls' := [some (.ref 55), some (.int (nI l)), some (.int (nI (tn_tn T l))), none]) dX9_wouldTake_5 rfl (Nat.le_of_ble_eq_true rfl) rfl rfl ?_
    refine ex_aload_n dX9_wouldTake_6 rfl rfl ?_
    refine ex_getR (b := 56) dX9_wouldTake_7 rfl qp_8_7 rfl rfl ?_
    refine ex_iload_n dX9_wouldTake_10 rfl rfl ?_
    refine ex_iaload (k := l) (x := 0) dX9_wouldTake_11 rfl rfl (rfl) (by omega) (by decide) (by rw [MW.kk h hl, hk]; rfl) ?_
    refine ex_istore_n (ls' := [some (.ref 55), some (.int (nI l)), some (.int (nI (tn_tn T l))), some (.int 0)]) dX9_wouldTake_12 rfl (Nat.le_of_ble_eq_true rfl) rfl rfl ?_
    refine ex_iload_n dX9_wouldTake_13 rfl rfl ?_
    refine ex_iconst (x := 5) dX9_wouldTake_14 rfl rfl ?_
    refine ex_icmp_ne (q := 20) (q2 := 18) dX9_wouldTake_15 rfl rfl (fun _ => ?_) (fun hh => absurd (by decide) hh)
    refine ex_iload_n dX9_wouldTake_20 rfl rfl ?_
    refine ex_iconst (x := 3) dX9_wouldTake_21 rfl rfl ?_
    refine ex_icmp_ne (q := 53) (q2 := 25) dX9_wouldTake_22 rfl rfl (fun _ => ?_) (fun hh => absurd (by decide) hh)
    refine ex_iload_n dX9_wouldTake_53 rfl rfl ?_
    refine ex_iconst (x := 1) dX9_wouldTake_54 rfl rfl ?_
    refine ex_icmp_eq (q := 63) (q2 := 58) dX9_wouldTake_55 rfl rfl (fun hh => absurd hh (by decide)) (fun _ => ?_)
    refine ex_iload_n dX9_wouldTake_58 rfl rfl ?_
    refine ex_iconst (x := 3) dX9_wouldTake_59 rfl rfl ?_
    refine ex_icmp_ne (q := 69) (q2 := 63) dX9_wouldTake_60 rfl rfl (fun _ => ?_) (fun hh => absurd (by decide) hh)
    refine ex_iload_n dX9_wouldTake_69 rfl rfl ?_
    refine ex_iconst (x := 2) dX9_wouldTake_70 rfl rfl ?_
    refine ex_icmp_eq (q := 79) (q2 := 74) dX9_wouldTake_71 rfl rfl (fun hh => absurd hh (by decide)) (fun _ => ?_)
    refine ex_iload_n dX9_wouldTake_74 rfl rfl ?_
    refine ex_iconst (x := 4) dX9_wouldTake_75 rfl rfl ?_
    refine ex_icmp_ne (q := 94) (q2 := 79) dX9_wouldTake_76 rfl rfl (fun _ => ?_) (fun hh => absurd (by decide) hh)
    refine ex_iload_n dX9_wouldTake_94 rfl rfl ?_
    refine ex_callS (rest := []) dX9_wouldTake_95 rfl qp_8_196 rfl rfl rfl (Nat.le_of_ble_eq_true rfl) (k_least (by first | exact tn_tn_lt hT l | exact l1 | exact l5)) (Nat.le_of_ble_eq_true rfl) ?_
    show Ex qm_lay _ mX9_wouldTake 98 [some (.ref 55), some (.int (nI l)), some (.int (nI (tn_tn T l))), some (.int 0)] [.int (nI (tn_lo (tn_tn T l)))] σ _ _
    exact ex_iret dX9_wouldTake_98 rfl (by simp [tn_wd, tn_knf, hk]) rfl
  · refine ex_aload_n dX9_wouldTake_0 rfl rfl ?_
    refine ex_iload_n dX9_wouldTake_1 rfl rfl ?_
    refine ex_callV (a := 55) (rest := []) dX9_wouldTake_2 rfl qp_8_190 rfl rfl rfl rfl rfl (Nat.le_of_ble_eq_true rfl) (kw_takenBeside hT h hl) (Nat.le_of_ble_eq_true rfl) ?_
    show Ex qm_lay _ mX9_wouldTake 5 [some (.ref 55), some (.int (nI l)), none, none] [.int (nI (tn_tn T l))] σ _ _
    refine ex_istore_n (ls' := [some (.ref 55), some (.int (nI l)), some (.int (nI (tn_tn T l))), none]) dX9_wouldTake_5 rfl (Nat.le_of_ble_eq_true rfl) rfl rfl ?_
    refine ex_aload_n dX9_wouldTake_6 rfl rfl ?_
    refine ex_getR (b := 56) dX9_wouldTake_7 rfl qp_8_7 rfl rfl ?_
    refine ex_iload_n dX9_wouldTake_10 rfl rfl ?_
    refine ex_iaload (k := l) (x := 1) dX9_wouldTake_11 rfl rfl (rfl) (by omega) (by decide) (by rw [MW.kk h hl, hk]; rfl) ?_
    refine ex_istore_n (ls' := [some (.ref 55), some (.int (nI l)), some (.int (nI (tn_tn T l))), some (.int 1)]) dX9_wouldTake_12 rfl (Nat.le_of_ble_eq_true rfl) rfl rfl ?_
    refine ex_iload_n dX9_wouldTake_13 rfl rfl ?_
    refine ex_iconst (x := 5) dX9_wouldTake_14 rfl rfl ?_
    refine ex_icmp_ne (q := 20) (q2 := 18) dX9_wouldTake_15 rfl rfl (fun _ => ?_) (fun hh => absurd (by decide) hh)
    refine ex_iload_n dX9_wouldTake_20 rfl rfl ?_
    refine ex_iconst (x := 3) dX9_wouldTake_21 rfl rfl ?_
    refine ex_icmp_ne (q := 53) (q2 := 25) dX9_wouldTake_22 rfl rfl (fun _ => ?_) (fun hh => absurd (by decide) hh)
    refine ex_iload_n dX9_wouldTake_53 rfl rfl ?_
    refine ex_iconst (x := 1) dX9_wouldTake_54 rfl rfl ?_
    refine ex_icmp_eq (q := 63) (q2 := 58) dX9_wouldTake_55 rfl rfl (fun _ => ?_) (fun hh => absurd (by decide) hh)
    refine ex_iload_n dX9_wouldTake_63 rfl rfl ?_
    refine ex_iconst (x := 1) dX9_wouldTake_64 rfl rfl ?_
    refine ex_ior (z := nI (tn_tn T l ||| 1)) dX9_wouldTake_65 rfl (nI_or _ 1) ?_
    refine ex_goto (q := 95) dX9_wouldTake_66 rfl ?_
    refine ex_callS (rest := []) dX9_wouldTake_95 rfl qp_8_196 rfl rfl rfl (Nat.le_of_ble_eq_true rfl) (k_least (by first | exact tn_tn_lt hT l | exact l1 | exact l5)) (Nat.le_of_ble_eq_true rfl) ?_
    show Ex qm_lay _ mX9_wouldTake 98 [some (.ref 55), some (.int (nI l)), some (.int (nI (tn_tn T l))), some (.int 1)] [.int (nI (tn_lo (tn_tn T l ||| 1)))] σ _ _
    exact ex_iret dX9_wouldTake_98 rfl (by simp [tn_wd, tn_knf, hk]) rfl
  · refine ex_aload_n dX9_wouldTake_0 rfl rfl ?_
    refine ex_iload_n dX9_wouldTake_1 rfl rfl ?_
    refine ex_callV (a := 55) (rest := []) dX9_wouldTake_2 rfl qp_8_190 rfl rfl rfl rfl rfl (Nat.le_of_ble_eq_true rfl) (kw_takenBeside hT h hl) (Nat.le_of_ble_eq_true rfl) ?_
    show Ex qm_lay _ mX9_wouldTake 5 [some (.ref 55), some (.int (nI l)), none, none] [.int (nI (tn_tn T l))] σ _ _
    refine ex_istore_n (ls' := [some (.ref 55), some (.int (nI l)), some (.int (nI (tn_tn T l))), none]) dX9_wouldTake_5 rfl (Nat.le_of_ble_eq_true rfl) rfl rfl ?_
    refine ex_aload_n dX9_wouldTake_6 rfl rfl ?_
    refine ex_getR (b := 56) dX9_wouldTake_7 rfl qp_8_7 rfl rfl ?_
    refine ex_iload_n dX9_wouldTake_10 rfl rfl ?_
    refine ex_iaload (k := l) (x := 2) dX9_wouldTake_11 rfl rfl (rfl) (by omega) (by decide) (by rw [MW.kk h hl, hk]; rfl) ?_
    refine ex_istore_n (ls' := [some (.ref 55), some (.int (nI l)), some (.int (nI (tn_tn T l))), some (.int 2)]) dX9_wouldTake_12 rfl (Nat.le_of_ble_eq_true rfl) rfl rfl ?_
    refine ex_iload_n dX9_wouldTake_13 rfl rfl ?_
    refine ex_iconst (x := 5) dX9_wouldTake_14 rfl rfl ?_
    refine ex_icmp_ne (q := 20) (q2 := 18) dX9_wouldTake_15 rfl rfl (fun _ => ?_) (fun hh => absurd (by decide) hh)
    refine ex_iload_n dX9_wouldTake_20 rfl rfl ?_
    refine ex_iconst (x := 3) dX9_wouldTake_21 rfl rfl ?_
    refine ex_icmp_ne (q := 53) (q2 := 25) dX9_wouldTake_22 rfl rfl (fun _ => ?_) (fun hh => absurd (by decide) hh)
    refine ex_iload_n dX9_wouldTake_53 rfl rfl ?_
    refine ex_iconst (x := 1) dX9_wouldTake_54 rfl rfl ?_
    refine ex_icmp_eq (q := 63) (q2 := 58) dX9_wouldTake_55 rfl rfl (fun hh => absurd hh (by decide)) (fun _ => ?_)
    refine ex_iload_n dX9_wouldTake_58 rfl rfl ?_
    refine ex_iconst (x := 3) dX9_wouldTake_59 rfl rfl ?_
    refine ex_icmp_ne (q := 69) (q2 := 63) dX9_wouldTake_60 rfl rfl (fun _ => ?_) (fun hh => absurd (by decide) hh)
    refine ex_iload_n dX9_wouldTake_69 rfl rfl ?_
    refine ex_iconst (x := 2) dX9_wouldTake_70 rfl rfl ?_
    refine ex_icmp_eq (q := 79) (q2 := 74) dX9_wouldTake_71 rfl rfl (fun _ => ?_) (fun hh => absurd (by decide) hh)
    refine ex_iload_n dX9_wouldTake_79 rfl rfl ?_
    refine ex_iconst (x := 1) dX9_wouldTake_80 rfl rfl ?_
    refine ex_aload_n dX9_wouldTake_81 rfl rfl ?_
    refine ex_getR (b := 57) dX9_wouldTake_82 rfl qp_8_13 rfl rfl ?_
    refine ex_iload_n dX9_wouldTake_85 rfl rfl ?_
    refine ex_iaload (k := l) (x := nI (tn_m T l)) dX9_wouldTake_86 rfl rfl (rfl) (by omega) (by decide) (MW.mm h (by omega)) ?_
    refine ex_iconst (x := 5) dX9_wouldTake_87 rfl rfl ?_
    refine ex_irem (z := nI (tn_m T l % 5)) dX9_wouldTake_88 rfl (by decide) (pk_rem (by omega) (by decide) (by decide)) ?_
    refine ex_ishl (z := nI (2 ^ (tn_m T l % 5))) dX9_wouldTake_89 rfl (nI_1shl (by omega)) ?_
    refine ex_ior (z := nI (tn_tn T l ||| 2 ^ (tn_m T l % 5))) dX9_wouldTake_90 rfl (nI_or _ _) ?_
    refine ex_goto (q := 95) dX9_wouldTake_91 rfl ?_
    refine ex_callS (rest := []) dX9_wouldTake_95 rfl qp_8_196 rfl rfl rfl (Nat.le_of_ble_eq_true rfl) (k_least (by first | exact tn_tn_lt hT l | exact l1 | exact l5)) (Nat.le_of_ble_eq_true rfl) ?_
    show Ex qm_lay _ mX9_wouldTake 98 [some (.ref 55), some (.int (nI l)), some (.int (nI (tn_tn T l))), some (.int 2)] [.int (nI (tn_lo (tn_tn T l ||| 2 ^ (tn_m T l % 5))))] σ _ _
    exact ex_iret dX9_wouldTake_98 rfl (by simp [tn_wd, tn_knf, hk]) rfl
  · refine ex_aload_n dX9_wouldTake_0 rfl rfl ?_
    refine ex_iload_n dX9_wouldTake_1 rfl rfl ?_
    refine ex_callV (a := 55) (rest := []) dX9_wouldTake_2 rfl qp_8_190 rfl rfl rfl rfl rfl (Nat.le_of_ble_eq_true rfl) (kw_takenBeside hT h hl) (Nat.le_of_ble_eq_true rfl) ?_
    show Ex qm_lay _ mX9_wouldTake 5 [some (.ref 55), some (.int (nI l)), none, none] [.int (nI (tn_tn T l))] σ _ _
    refine ex_istore_n (ls' := [some (.ref 55), some (.int (nI l)), some (.int (nI (tn_tn T l))), none]) dX9_wouldTake_5 rfl (Nat.le_of_ble_eq_true rfl) rfl rfl ?_
    refine ex_aload_n dX9_wouldTake_6 rfl rfl ?_
    refine ex_getR (b := 56) dX9_wouldTake_7 rfl qp_8_7 rfl rfl ?_
    refine ex_iload_n dX9_wouldTake_10 rfl rfl ?_
    refine ex_iaload (k := l) (x := 3) dX9_wouldTake_11 rfl rfl (rfl) (by omega) (by decide) (by rw [MW.kk h hl, hk]; rfl) ?_
    refine ex_istore_n (ls' := [some (.ref 55), some (.int (nI l)), some (.int (nI (tn_tn T l))), some (.int 3)]) dX9_wouldTake_12 rfl (Nat.le_of_ble_eq_true rfl) rfl rfl ?_
    refine ex_iload_n dX9_wouldTake_13 rfl rfl ?_
    refine ex_iconst (x := 5) dX9_wouldTake_14 rfl rfl ?_
    refine ex_icmp_ne (q := 20) (q2 := 18) dX9_wouldTake_15 rfl rfl (fun _ => ?_) (fun hh => absurd (by decide) hh)
    refine ex_iload_n dX9_wouldTake_20 rfl rfl ?_
    refine ex_iconst (x := 3) dX9_wouldTake_21 rfl rfl ?_
    refine ex_icmp_ne (q := 53) (q2 := 25) dX9_wouldTake_22 rfl rfl (fun hh => absurd hh (by decide)) (fun _ => ?_)
    refine ex_iload_n dX9_wouldTake_25 rfl rfl ?_
    refine ex_callS (rest := []) dX9_wouldTake_26 rfl qp_8_92 rfl rfl rfl (Nat.le_of_ble_eq_true rfl) (k_ones (tn_tn_lt hT l)) (Nat.le_of_ble_eq_true rfl) ?_
    show Ex qm_lay _ mX9_wouldTake 29 [some (.ref 55), some (.int (nI l)), some (.int (nI (tn_tn T l))), some (.int 3)] [.int (nI (tn_pc (tn_tn T l)))] σ _ _
    refine ex_aload_n dX9_wouldTake_29 rfl rfl ?_
    refine ex_getR (b := 57) dX9_wouldTake_30 rfl qp_8_13 rfl rfl ?_
    refine ex_iload_n dX9_wouldTake_33 rfl rfl ?_
    refine ex_iaload (k := l) (x := nI (tn_m T l)) dX9_wouldTake_34 rfl rfl (rfl) (by omega) (by decide) (MW.mm h (by omega)) ?_
    refine ex_iconst (x := 4) dX9_wouldTake_35 rfl rfl ?_
    refine ex_irem (z := nI (tn_m T l % 4)) dX9_wouldTake_36 rfl (by decide) (pk_rem (by omega) (by decide) (by decide)) ?_
    refine ex_icmp_le (q := 53) (q2 := 40) dX9_wouldTake_37 rfl rfl (fun h37 => ?_) (fun h37 => ?_)
    · refine ex_iload_n dX9_wouldTake_53 rfl rfl ?_
      refine ex_iconst (x := 1) dX9_wouldTake_54 rfl rfl ?_
      refine ex_icmp_eq (q := 63) (q2 := 58) dX9_wouldTake_55 rfl rfl (fun hh => absurd hh (by decide)) (fun _ => ?_)
      refine ex_iload_n dX9_wouldTake_58 rfl rfl ?_
      refine ex_iconst (x := 3) dX9_wouldTake_59 rfl rfl ?_
      refine ex_icmp_ne (q := 69) (q2 := 63) dX9_wouldTake_60 rfl rfl (fun hh => absurd hh (by decide)) (fun _ => ?_)
      refine ex_iload_n dX9_wouldTake_63 rfl rfl ?_
      refine ex_iconst (x := 1) dX9_wouldTake_64 rfl rfl ?_
      refine ex_ior (z := nI (tn_tn T l ||| 1)) dX9_wouldTake_65 rfl (nI_or _ 1) ?_
      refine ex_goto (q := 95) dX9_wouldTake_66 rfl ?_
      refine ex_callS (rest := []) dX9_wouldTake_95 rfl qp_8_196 rfl rfl rfl (Nat.le_of_ble_eq_true rfl) (k_least (by first | exact tn_tn_lt hT l | exact l1 | exact l5)) (Nat.le_of_ble_eq_true rfl) ?_
      show Ex qm_lay _ mX9_wouldTake 98 [some (.ref 55), some (.int (nI l)), some (.int (nI (tn_tn T l))), some (.int 3)] [.int (nI (tn_lo (tn_tn T l ||| 1)))] σ _ _
      exact ex_iret dX9_wouldTake_98 rfl (by rw [tn_wd, tn_knf, if_neg (by rw [hk]; decide), if_neg (by rw [hk]; decide), if_pos hk, if_neg (by have := (nI_leI (a := tn_pc (tn_tn T l)) (b := tn_m T l % 4) (by omega) (by omega)).mp h37; omega)]) rfl
    · refine ex_iload_n dX9_wouldTake_40 rfl rfl ?_
      refine ex_callS (rest := []) dX9_wouldTake_41 rfl qp_8_193 rfl rfl rfl (Nat.le_of_ble_eq_true rfl) (hg1) (Nat.le_of_ble_eq_true rfl) ?_
      show Ex qm_lay _ mX9_wouldTake 44 [some (.ref 55), some (.int (nI l)), some (.int (nI (tn_tn T l))), some (.int 3)] [.int (nI g + (-1))] σ _ _
      refine ex_iconst (x := 1) dX9_wouldTake_44 rfl rfl ?_
      refine ex_iadd (z := nI g) dX9_wouldTake_45 rfl (by rw [Int32.add_assoc]; exact (by rw [show (-1 : Int32) + 1 = 0 by decide, Int32.add_zero])) ?_
      refine ex_iconst (x := 0) dX9_wouldTake_46 rfl rfl ?_
      refine ex_bipush (x := 11) dX9_wouldTake_47 rfl rfl ?_
      refine ex_callS (rest := []) dX9_wouldTake_49 rfl qp_8_176 rfl rfl rfl (Nat.le_of_ble_eq_true rfl) (k_within _ _ _ _) (Nat.le_of_ble_eq_true rfl) ?_
      show Ex qm_lay _ mX9_wouldTake 52 [some (.ref 55), some (.int (nI l)), some (.int (nI (tn_tn T l))), some (.int 3)] [.int (tn_wn (nI g) 0 11)] σ _ _
      exact ex_iret dX9_wouldTake_52 rfl (by rw [tn_wd, tn_knf, if_neg (by rw [hk]; decide), if_neg (by rw [hk]; decide), if_pos hk, if_pos (by have := mt (nI_leI (a := tn_pc (tn_tn T l)) (b := tn_m T l % 4) (by omega) (by omega)).mpr h37; omega), hg3, tn_wn_hi hg2]) rfl
  · refine ex_aload_n dX9_wouldTake_0 rfl rfl ?_
    refine ex_iload_n dX9_wouldTake_1 rfl rfl ?_
    refine ex_callV (a := 55) (rest := []) dX9_wouldTake_2 rfl qp_8_190 rfl rfl rfl rfl rfl (Nat.le_of_ble_eq_true rfl) (kw_takenBeside hT h hl) (Nat.le_of_ble_eq_true rfl) ?_
    show Ex qm_lay _ mX9_wouldTake 5 [some (.ref 55), some (.int (nI l)), none, none] [.int (nI (tn_tn T l))] σ _ _
    refine ex_istore_n (ls' := [some (.ref 55), some (.int (nI l)), some (.int (nI (tn_tn T l))), none]) dX9_wouldTake_5 rfl (Nat.le_of_ble_eq_true rfl) rfl rfl ?_
    refine ex_aload_n dX9_wouldTake_6 rfl rfl ?_
    refine ex_getR (b := 56) dX9_wouldTake_7 rfl qp_8_7 rfl rfl ?_
    refine ex_iload_n dX9_wouldTake_10 rfl rfl ?_
    refine ex_iaload (k := l) (x := 4) dX9_wouldTake_11 rfl rfl (rfl) (by omega) (by decide) (by rw [MW.kk h hl, hk]; rfl) ?_
    refine ex_istore_n (ls' := [some (.ref 55), some (.int (nI l)), some (.int (nI (tn_tn T l))), some (.int 4)]) dX9_wouldTake_12 rfl (Nat.le_of_ble_eq_true rfl) rfl rfl ?_
    refine ex_iload_n dX9_wouldTake_13 rfl rfl ?_
    refine ex_iconst (x := 5) dX9_wouldTake_14 rfl rfl ?_
    refine ex_icmp_ne (q := 20) (q2 := 18) dX9_wouldTake_15 rfl rfl (fun _ => ?_) (fun hh => absurd (by decide) hh)
    refine ex_iload_n dX9_wouldTake_20 rfl rfl ?_
    refine ex_iconst (x := 3) dX9_wouldTake_21 rfl rfl ?_
    refine ex_icmp_ne (q := 53) (q2 := 25) dX9_wouldTake_22 rfl rfl (fun _ => ?_) (fun hh => absurd (by decide) hh)
    refine ex_iload_n dX9_wouldTake_53 rfl rfl ?_
    refine ex_iconst (x := 1) dX9_wouldTake_54 rfl rfl ?_
    refine ex_icmp_eq (q := 63) (q2 := 58) dX9_wouldTake_55 rfl rfl (fun hh => absurd hh (by decide)) (fun _ => ?_)
    refine ex_iload_n dX9_wouldTake_58 rfl rfl ?_
    refine ex_iconst (x := 3) dX9_wouldTake_59 rfl rfl ?_
    refine ex_icmp_ne (q := 69) (q2 := 63) dX9_wouldTake_60 rfl rfl (fun _ => ?_) (fun hh => absurd (by decide) hh)
    refine ex_iload_n dX9_wouldTake_69 rfl rfl ?_
    refine ex_iconst (x := 2) dX9_wouldTake_70 rfl rfl ?_
    refine ex_icmp_eq (q := 79) (q2 := 74) dX9_wouldTake_71 rfl rfl (fun hh => absurd hh (by decide)) (fun _ => ?_)
    refine ex_iload_n dX9_wouldTake_74 rfl rfl ?_
    refine ex_iconst (x := 4) dX9_wouldTake_75 rfl rfl ?_
    refine ex_icmp_ne (q := 94) (q2 := 79) dX9_wouldTake_76 rfl rfl (fun hh => absurd hh (by decide)) (fun _ => ?_)
    refine ex_iload_n dX9_wouldTake_79 rfl rfl ?_
    refine ex_iconst (x := 1) dX9_wouldTake_80 rfl rfl ?_
    refine ex_aload_n dX9_wouldTake_81 rfl rfl ?_
    refine ex_getR (b := 57) dX9_wouldTake_82 rfl qp_8_13 rfl rfl ?_
    refine ex_iload_n dX9_wouldTake_85 rfl rfl ?_
    refine ex_iaload (k := l) (x := nI (tn_m T l)) dX9_wouldTake_86 rfl rfl (rfl) (by omega) (by decide) (MW.mm h (by omega)) ?_
    refine ex_iconst (x := 5) dX9_wouldTake_87 rfl rfl ?_
    refine ex_irem (z := nI (tn_m T l % 5)) dX9_wouldTake_88 rfl (by decide) (pk_rem (by omega) (by decide) (by decide)) ?_
    refine ex_ishl (z := nI (2 ^ (tn_m T l % 5))) dX9_wouldTake_89 rfl (nI_1shl (by omega)) ?_
    refine ex_ior (z := nI (tn_tn T l ||| 2 ^ (tn_m T l % 5))) dX9_wouldTake_90 rfl (nI_or _ _) ?_
    refine ex_goto (q := 95) dX9_wouldTake_91 rfl ?_
    refine ex_callS (rest := []) dX9_wouldTake_95 rfl qp_8_196 rfl rfl rfl (Nat.le_of_ble_eq_true rfl) (k_least (by first | exact tn_tn_lt hT l | exact l1 | exact l5)) (Nat.le_of_ble_eq_true rfl) ?_
    show Ex qm_lay _ mX9_wouldTake 98 [some (.ref 55), some (.int (nI l)), some (.int (nI (tn_tn T l))), some (.int 4)] [.int (nI (tn_lo (tn_tn T l ||| 2 ^ (tn_m T l % 5))))] σ _ _
    exact ex_iret dX9_wouldTake_98 rfl (by simp [tn_wd, tn_knf, hk]) rfl
  · refine ex_aload_n dX9_wouldTake_0 rfl rfl ?_
    refine ex_iload_n dX9_wouldTake_1 rfl rfl ?_
    refine ex_callV (a := 55) (rest := []) dX9_wouldTake_2 rfl qp_8_190 rfl rfl rfl rfl rfl (Nat.le_of_ble_eq_true rfl) (kw_takenBeside hT h hl) (Nat.le_of_ble_eq_true rfl) ?_
    show Ex qm_lay _ mX9_wouldTake 5 [some (.ref 55), some (.int (nI l)), none, none] [.int (nI (tn_tn T l))] σ _ _
    refine ex_istore_n (ls' := [some (.ref 55), some (.int (nI l)), some (.int (nI (tn_tn T l))), none]) dX9_wouldTake_5 rfl (Nat.le_of_ble_eq_true rfl) rfl rfl ?_
    refine ex_aload_n dX9_wouldTake_6 rfl rfl ?_
    refine ex_getR (b := 56) dX9_wouldTake_7 rfl qp_8_7 rfl rfl ?_
    refine ex_iload_n dX9_wouldTake_10 rfl rfl ?_
    refine ex_iaload (k := l) (x := 5) dX9_wouldTake_11 rfl rfl (rfl) (by omega) (by decide) (by rw [MW.kk h hl, hk]; rfl) ?_
    refine ex_istore_n (ls' := [some (.ref 55), some (.int (nI l)), some (.int (nI (tn_tn T l))), some (.int 5)]) dX9_wouldTake_12 rfl (Nat.le_of_ble_eq_true rfl) rfl rfl ?_
    refine ex_iload_n dX9_wouldTake_13 rfl rfl ?_
    refine ex_iconst (x := 5) dX9_wouldTake_14 rfl rfl ?_
    refine ex_icmp_ne (q := 20) (q2 := 18) dX9_wouldTake_15 rfl rfl (fun hh => absurd hh (by decide)) (fun _ => ?_)
    refine ex_iconst (x := 0) dX9_wouldTake_18 rfl rfl ?_
    exact ex_iret dX9_wouldTake_19 rfl (by simp [tn_wd, tn_knf, hk]; rfl) rfl
set_option maxRecDepth 8000 in
set_option maxHeartbeats 2000000 in
theorem l_fits2 {T : tn_T} (hT : tn_ok T) {ov : Int32} {out : Nat} (hov : ∀ l, l < 7 → (nI l = ov ↔ out.testBit l = true)) {os : List Nat} (hos : ∀ l ∈ os, (tn_u T).testBit l = true) : ∀ (r k S : Nat) (is : Bool) (σ1 : qm_St), k + r = os.length → S < 2 ^ tn_L T → (∀ l, S.testBit l = true → (tn_u T).testBit l = true) → MW σ1 (tn_su T S) → KP σ1 T → RR σ1 os → ∃ σ', Ex qm_lay 6 mX9_fitsRow 31 [some (.ref 55), some (.int ov), some (.int (b2i is)), some (.int (nI k))] [] σ1 (some (.int (b2i (is && fo (okR T out) S (os.drop k))))) σ' ∧ MR σ' T ∧ ∃ σ2, sm σ1 σ2 28 28 45 46 ∧ sm σ2 σ' 28 29 44 47 := by
  have hL := hT.1
  have h128 : 2 ^ tn_L T ≤ 128 := Nat.pow_le_pow_right (n := 2) (by omega) hL
  intro r
  induction r with
  | zero =>
    intro k S is σ1 hk hS hSu hM hK hor
    have ho7 := hor.2.1
    obtain ⟨σ', hO, hR, hs⟩ := k_laysBack hT hK (T := T) hM.1
    refine ⟨σ', ?_, hR, σ1, sm.rf _ _ _ _ _, hs⟩
    rw [List.drop_eq_nil_of_le (by omega)]
    refine ex_iload_n dX9_fitsRow_31 rfl rfl ?_
    refine ex_aload_n dX9_fitsRow_32 rfl rfl ?_
    refine ex_getI (s := 44) (x := nI os.length) dX9_fitsRow_33 rfl qp_8_235 rfl rfl (hor.1) ?_
    refine ex_icmp_ge (q := 111) (q2 := 39) dX9_fitsRow_36 rfl rfl (fun _ => ?_) (fun hh => absurd (nI_le (a := os.length) (b := k) (by omega) (by omega)) hh)
    refine ex_aload_n dX9_fitsRow_111 rfl rfl ?_
    refine ex_callV (a := 55) (rest := []) dX9_fitsRow_112 rfl qp_8_229 rfl rfl rfl rfl rfl (Nat.le_of_ble_eq_true rfl) (hO) (Nat.le_of_ble_eq_true rfl) ?_
    show Ex qm_lay _ mX9_fitsRow 115 [some (.ref 55), some (.int ov), some (.int (b2i is)), some (.int (nI k))] [] σ' _ _
    refine ex_iload_n dX9_fitsRow_115 rfl rfl ?_
    exact ex_zret dX9_fitsRow_116 rfl (b2i_01 _) (by cases is <;> rfl) rfl
  | succ r ih =>
    intro k S is σ1 hk hS hSu hM hK hor
    have ho7 := hor.2.1
    cases is with
    | false =>
      obtain ⟨σ', hO, hR, hs⟩ := k_laysBack hT hK (T := T) hM.1
      refine ⟨σ', ?_, hR, σ1, sm.rf _ _ _ _ _, hs⟩
      refine ex_iload_n dX9_fitsRow_31 rfl rfl ?_
      refine ex_aload_n dX9_fitsRow_32 rfl rfl ?_
      refine ex_getI (s := 44) (x := nI os.length) dX9_fitsRow_33 rfl qp_8_235 rfl rfl (hor.1) ?_
      refine ex_icmp_ge (q := 111) (q2 := 39) dX9_fitsRow_36 rfl rfl (fun hh => absurd hh (nI_ge (a := k) (b := os.length) (by omega) (by omega))) (fun _ => ?_)
      refine ex_iload_n dX9_fitsRow_39 rfl rfl ?_
      refine ex_if_eq (q := 111) (q2 := 43) dX9_fitsRow_40 rfl rfl (fun _ => ?_) (fun hh => absurd (b2i_0.mpr (rfl)) hh)
      refine ex_aload_n dX9_fitsRow_111 rfl rfl ?_
      refine ex_callV (a := 55) (rest := []) dX9_fitsRow_112 rfl qp_8_229 rfl rfl rfl rfl rfl (Nat.le_of_ble_eq_true rfl) (hO) (Nat.le_of_ble_eq_true rfl) ?_
      show Ex qm_lay _ mX9_fitsRow 115 [some (.ref 55), some (.int ov), some (.int (b2i false)), some (.int (nI k))] [] σ' _ _
      refine ex_iload_n dX9_fitsRow_115 rfl rfl ?_
      exact ex_zret dX9_fitsRow_116 rfl (b2i_01 _) rfl rfl
    | true =>
      rw [drop_getD (show k < os.length by omega)]
      obtain ⟨l, hl⟩ : ∃ l, l = os.getD k 0 := ⟨_, rfl⟩
      have hrow : qm_rF σ1 60 k = nI l := by rw [hl]; exact hor.2.2 k (by omega)
      have hb : (tn_u T).testBit l = true := by rw [hl]; exact hos _ (getD_mem (by omega))
      have hlL : l < tn_L T := bit_lt hT.2.2.1 hb
      rw [← hl]
      have hok := su_ok hT hS hSu
      have hc := (hT.2.2.2 l hlL).2.2.2.2.1 hb
      have hw := tn_wd_le hok l
      have hkp : qm_rF σ1 59 l = nI (tn_c T l) := by rw [← tn_cv_b hb]; exact (hK.2 l hlL).1
      have hS2 : S ||| 2 ^ l < 2 ^ tn_L T := Nat.or_lt_two_pow hS (Nat.pow_lt_pow_right (by omega) hlL)
      have hS2u : ∀ j, (S ||| 2 ^ l).testBit j = true → (tn_u T).testBit j = true := fun j hj => by
        rw [Nat.testBit_or, tb_2, Bool.or_eq_true] at hj
        rcases hj with hj | hj
        · exact hSu j hj
        · rw [← of_decide_eq_true hj]; exact hb
      have hg : sm σ1 (qm_wF σ1 45 l (nI (tn_c T l))) 28 28 45 46 := (sm.rf σ1 28 28 45 46).wF _ (by omega)
      have hM2 : MW (qm_wF σ1 45 l (nI (tn_c T l))) (tn_su T (S ||| 2 ^ l)) := by
        refine ⟨hM.1.sm hg (by omega) (by omega), fun q hq => ?_⟩
        obtain ⟨g1, g2⟩ := hM.2 q hq
        refine ⟨by rw [hg.2 _ (by omega)]; exact g1, ?_⟩
        show qm_rF _ 45 q = if (S ||| 2 ^ l).testBit q = true then nI (tn_c T q) else -1
        have g3 : qm_rF σ1 45 q = if S.testBit q = true then nI (tn_c T q) else -1 := g2
        rw [Nat.testBit_or, tb_2]
        by_cases e : q = l
        · subst e
          rw [rF_eq, decide_eq_true rfl, Bool.or_true, if_pos rfl]
        · rw [rF_ne (Or.inr e), decide_eq_false (fun z => e z.symm), Bool.or_false]
          exact g3
      obtain ⟨σ', hE, hR, σ2, hs1, hs2⟩ := ih (k + 1) (S ||| 2 ^ l) (okR T out S l) _ (by omega) hS2 hS2u hM2 (hK.sm hg (by omega) (by omega)) (hor.sm hg (by omega) (by omega))
      refine ⟨σ', ?_, hR, σ2, hg.tr hs1, hs2⟩
      show Ex qm_lay 6 mX9_fitsRow 31 _ [] σ1 (some (.int (b2i (true && (okR T out S l && fo (okR T out) (S ||| 2 ^ l) (os.drop (k + 1))))))) σ'
      rw [Bool.true_and]
      by_cases cD : out.testBit l = true
      · have e1 : okR T out S l = true := by unfold okR; rw [cD]; rfl
        rw [e1] at hE ⊢
        refine ex_iload_n dX9_fitsRow_31 rfl rfl ?_
        refine ex_aload_n dX9_fitsRow_32 rfl rfl ?_
        refine ex_getI (s := 44) (x := nI os.length) dX9_fitsRow_33 rfl qp_8_235 rfl rfl (hor.1) ?_
        refine ex_icmp_ge (q := 111) (q2 := 39) dX9_fitsRow_36 rfl rfl (fun hh => absurd hh (nI_ge (a := k) (b := os.length) (by omega) (by omega))) (fun _ => ?_)
        refine ex_iload_n dX9_fitsRow_39 rfl rfl ?_
        refine ex_if_eq (q := 111) (q2 := 43) dX9_fitsRow_40 rfl rfl (fun hh => absurd hh (b2i_n0.mpr (rfl))) (fun _ => ?_)
        refine ex_aload_n dX9_fitsRow_43 rfl rfl ?_
        refine ex_getR (b := 74) dX9_fitsRow_44 rfl qp_8_64 rfl rfl ?_
        refine ex_iload_n dX9_fitsRow_47 rfl rfl ?_
        refine ex_iaload (k := k) (x := nI l) dX9_fitsRow_48 rfl rfl (rfl) (by omega) (by decide) (hrow) ?_
        refine ex_iload_n dX9_fitsRow_49 rfl rfl ?_
        refine ex_icmp_eq (q := 77) (q2 := 53) dX9_fitsRow_50 rfl rfl (fun _ => ?_) (fun hh => absurd ((hov l (by omega)).mpr cD) hh)
        refine ex_iconst (x := 1) dX9_fitsRow_77 rfl rfl ?_
        refine ex_goto (q := 82) dX9_fitsRow_78 rfl ?_
        refine ex_istore_n (ls' := [some (.ref 55), some (.int ov), some (.int 1), some (.int (nI k))]) dX9_fitsRow_82 rfl (Nat.le_of_ble_eq_true rfl) rfl rfl ?_
        refine ex_aload_n dX9_fitsRow_83 rfl rfl ?_
        refine ex_getR (b := 59) dX9_fitsRow_84 rfl qp_8_19 rfl rfl ?_
        refine ex_aload_n dX9_fitsRow_87 rfl rfl ?_
        refine ex_getR (b := 74) dX9_fitsRow_88 rfl qp_8_64 rfl rfl ?_
        refine ex_iload_n dX9_fitsRow_91 rfl rfl ?_
        refine ex_iaload (k := k) (x := nI l) dX9_fitsRow_92 rfl rfl (rfl) (by omega) (by decide) (hrow) ?_
        refine ex_aload_n dX9_fitsRow_93 rfl rfl ?_
        refine ex_getR (b := 73) dX9_fitsRow_94 rfl qp_8_61 rfl rfl ?_
        refine ex_aload_n dX9_fitsRow_97 rfl rfl ?_
        refine ex_getR (b := 74) dX9_fitsRow_98 rfl qp_8_64 rfl rfl ?_
        refine ex_iload_n dX9_fitsRow_101 rfl rfl ?_
        refine ex_iaload (k := k) (x := nI l) dX9_fitsRow_102 rfl rfl (rfl) (by omega) (by decide) (hrow) ?_
        refine ex_iaload (k := l) (x := nI (tn_c T l)) dX9_fitsRow_103 rfl rfl (rfl) (by omega) (by decide) (hkp) ?_
        refine ex_iastore (k := l) (σ' := qm_wF σ1 45 l (nI (tn_c T l))) dX9_fitsRow_104 rfl rfl (rfl) (by omega) (by decide) rfl ?_
        refine ex_iinc (y := nI (k + 1)) (ls' := [some (.ref 55), some (.int ov), some (.int 1), some (.int (nI (k + 1)))]) dX9_fitsRow_105 rfl rfl rfl (nI_add k 1) rfl ?_
        refine ex_goto (q := 31) dX9_fitsRow_108 rfl ?_
        exact hE
      · by_cases cE : tn_wd (tn_su T S) l = tn_c T l
        · have e1 : okR T out S l = true := by unfold okR; rw [show out.testBit l = false by simpa using cD, Bool.false_or]; exact decide_eq_true cE
          rw [e1] at hE ⊢
          refine ex_iload_n dX9_fitsRow_31 rfl rfl ?_
          refine ex_aload_n dX9_fitsRow_32 rfl rfl ?_
          refine ex_getI (s := 44) (x := nI os.length) dX9_fitsRow_33 rfl qp_8_235 rfl rfl (hor.1) ?_
          refine ex_icmp_ge (q := 111) (q2 := 39) dX9_fitsRow_36 rfl rfl (fun hh => absurd hh (nI_ge (a := k) (b := os.length) (by omega) (by omega))) (fun _ => ?_)
          refine ex_iload_n dX9_fitsRow_39 rfl rfl ?_
          refine ex_if_eq (q := 111) (q2 := 43) dX9_fitsRow_40 rfl rfl (fun hh => absurd hh (b2i_n0.mpr (rfl))) (fun _ => ?_)
          refine ex_aload_n dX9_fitsRow_43 rfl rfl ?_
          refine ex_getR (b := 74) dX9_fitsRow_44 rfl qp_8_64 rfl rfl ?_
          refine ex_iload_n dX9_fitsRow_47 rfl rfl ?_
          refine ex_iaload (k := k) (x := nI l) dX9_fitsRow_48 rfl rfl (rfl) (by omega) (by decide) (hrow) ?_
          refine ex_iload_n dX9_fitsRow_49 rfl rfl ?_
          refine ex_icmp_eq (q := 77) (q2 := 53) dX9_fitsRow_50 rfl rfl (fun hh => absurd hh (fun zz => cD ((hov l (by omega)).mp zz))) (fun _ => ?_)
          refine ex_aload_n dX9_fitsRow_53 rfl rfl ?_
          refine ex_aload_n dX9_fitsRow_54 rfl rfl ?_
          refine ex_getR (b := 74) dX9_fitsRow_55 rfl qp_8_64 rfl rfl ?_
          refine ex_iload_n dX9_fitsRow_58 rfl rfl ?_
          refine ex_iaload (k := k) (x := nI l) dX9_fitsRow_59 rfl rfl (rfl) (by omega) (by decide) (hrow) ?_
          refine ex_callV (a := 55) (rest := []) dX9_fitsRow_60 rfl qp_8_202 rfl rfl rfl rfl rfl (Nat.le_of_ble_eq_true rfl) (kw_wouldTake hok hM hlL) (Nat.le_of_ble_eq_true rfl) ?_
          show Ex qm_lay _ mX9_fitsRow 63 [some (.ref 55), some (.int ov), some (.int (b2i true)), some (.int (nI k))] [.int (nI (tn_wd (tn_su T S) l))] σ1 _ _
          refine ex_aload_n dX9_fitsRow_63 rfl rfl ?_
          refine ex_getR (b := 73) dX9_fitsRow_64 rfl qp_8_61 rfl rfl ?_
          refine ex_aload_n dX9_fitsRow_67 rfl rfl ?_
          refine ex_getR (b := 74) dX9_fitsRow_68 rfl qp_8_64 rfl rfl ?_
          refine ex_iload_n dX9_fitsRow_71 rfl rfl ?_
          refine ex_iaload (k := k) (x := nI l) dX9_fitsRow_72 rfl rfl (rfl) (by omega) (by decide) (hrow) ?_
          refine ex_iaload (k := l) (x := nI (tn_c T l)) dX9_fitsRow_73 rfl rfl (rfl) (by omega) (by decide) (hkp) ?_
          refine ex_icmp_ne (q := 81) (q2 := 77) dX9_fitsRow_74 rfl rfl (fun hh => absurd hh (fun zz => zz (congrArg nI cE))) (fun _ => ?_)
          refine ex_iconst (x := 1) dX9_fitsRow_77 rfl rfl ?_
          refine ex_goto (q := 82) dX9_fitsRow_78 rfl ?_
          refine ex_istore_n (ls' := [some (.ref 55), some (.int ov), some (.int 1), some (.int (nI k))]) dX9_fitsRow_82 rfl (Nat.le_of_ble_eq_true rfl) rfl rfl ?_
          refine ex_aload_n dX9_fitsRow_83 rfl rfl ?_
          refine ex_getR (b := 59) dX9_fitsRow_84 rfl qp_8_19 rfl rfl ?_
          refine ex_aload_n dX9_fitsRow_87 rfl rfl ?_
          refine ex_getR (b := 74) dX9_fitsRow_88 rfl qp_8_64 rfl rfl ?_
          refine ex_iload_n dX9_fitsRow_91 rfl rfl ?_
          refine ex_iaload (k := k) (x := nI l) dX9_fitsRow_92 rfl rfl (rfl) (by omega) (by decide) (hrow) ?_
          refine ex_aload_n dX9_fitsRow_93 rfl rfl ?_
          refine ex_getR (b := 73) dX9_fitsRow_94 rfl qp_8_61 rfl rfl ?_
          refine ex_aload_n dX9_fitsRow_97 rfl rfl ?_
          refine ex_getR (b := 74) dX9_fitsRow_98 rfl qp_8_64 rfl rfl ?_
          refine ex_iload_n dX9_fitsRow_101 rfl rfl ?_
          refine ex_iaload (k := k) (x := nI l) dX9_fitsRow_102 rfl rfl (rfl) (by omega) (by decide) (hrow) ?_
          refine ex_iaload (k := l) (x := nI (tn_c T l)) dX9_fitsRow_103 rfl rfl (rfl) (by omega) (by decide) (hkp) ?_
          refine ex_iastore (k := l) (σ' := qm_wF σ1 45 l (nI (tn_c T l))) dX9_fitsRow_104 rfl rfl (rfl) (by omega) (by decide) rfl ?_
          refine ex_iinc (y := nI (k + 1)) (ls' := [some (.ref 55), some (.int ov), some (.int 1), some (.int (nI (k + 1)))]) dX9_fitsRow_105 rfl rfl rfl (nI_add k 1) rfl ?_
          refine ex_goto (q := 31) dX9_fitsRow_108 rfl ?_
          exact hE
        · have e1 : okR T out S l = false := by unfold okR; rw [show out.testBit l = false by simpa using cD, Bool.false_or]; exact decide_eq_false cE
          rw [e1] at hE ⊢
          refine ex_iload_n dX9_fitsRow_31 rfl rfl ?_
          refine ex_aload_n dX9_fitsRow_32 rfl rfl ?_
          refine ex_getI (s := 44) (x := nI os.length) dX9_fitsRow_33 rfl qp_8_235 rfl rfl (hor.1) ?_
          refine ex_icmp_ge (q := 111) (q2 := 39) dX9_fitsRow_36 rfl rfl (fun hh => absurd hh (nI_ge (a := k) (b := os.length) (by omega) (by omega))) (fun _ => ?_)
          refine ex_iload_n dX9_fitsRow_39 rfl rfl ?_
          refine ex_if_eq (q := 111) (q2 := 43) dX9_fitsRow_40 rfl rfl (fun hh => absurd hh (b2i_n0.mpr (rfl))) (fun _ => ?_)
          refine ex_aload_n dX9_fitsRow_43 rfl rfl ?_
          refine ex_getR (b := 74) dX9_fitsRow_44 rfl qp_8_64 rfl rfl ?_
          refine ex_iload_n dX9_fitsRow_47 rfl rfl ?_
          refine ex_iaload (k := k) (x := nI l) dX9_fitsRow_48 rfl rfl (rfl) (by omega) (by decide) (hrow) ?_
          refine ex_iload_n dX9_fitsRow_49 rfl rfl ?_
          refine ex_icmp_eq (q := 77) (q2 := 53) dX9_fitsRow_50 rfl rfl (fun hh => absurd hh (fun zz => cD ((hov l (by omega)).mp zz))) (fun _ => ?_)
          refine ex_aload_n dX9_fitsRow_53 rfl rfl ?_
          refine ex_aload_n dX9_fitsRow_54 rfl rfl ?_
          refine ex_getR (b := 74) dX9_fitsRow_55 rfl qp_8_64 rfl rfl ?_
          refine ex_iload_n dX9_fitsRow_58 rfl rfl ?_
          refine ex_iaload (k := k) (x := nI l) dX9_fitsRow_59 rfl rfl (rfl) (by omega) (by decide) (hrow) ?_
          refine ex_callV (a := 55) (rest := []) dX9_fitsRow_60 rfl qp_8_202 rfl rfl rfl rfl rfl (Nat.le_of_ble_eq_true rfl) (kw_wouldTake hok hM hlL) (Nat.le_of_ble_eq_true rfl) ?_
          show Ex qm_lay _ mX9_fitsRow 63 [some (.ref 55), some (.int ov), some (.int (b2i true)), some (.int (nI k))] [.int (nI (tn_wd (tn_su T S) l))] σ1 _ _
          refine ex_aload_n dX9_fitsRow_63 rfl rfl ?_
          refine ex_getR (b := 73) dX9_fitsRow_64 rfl qp_8_61 rfl rfl ?_
          refine ex_aload_n dX9_fitsRow_67 rfl rfl ?_
          refine ex_getR (b := 74) dX9_fitsRow_68 rfl qp_8_64 rfl rfl ?_
          refine ex_iload_n dX9_fitsRow_71 rfl rfl ?_
          refine ex_iaload (k := k) (x := nI l) dX9_fitsRow_72 rfl rfl (rfl) (by omega) (by decide) (hrow) ?_
          refine ex_iaload (k := l) (x := nI (tn_c T l)) dX9_fitsRow_73 rfl rfl (rfl) (by omega) (by decide) (hkp) ?_
          refine ex_icmp_ne (q := 81) (q2 := 77) dX9_fitsRow_74 rfl rfl (fun _ => ?_) (fun hh => absurd (fun zz => cE ((nI_eq (by omega) (by omega)).mp zz)) hh)
          refine ex_iconst (x := 0) dX9_fitsRow_81 rfl rfl ?_
          refine ex_istore_n (ls' := [some (.ref 55), some (.int ov), some (.int 0), some (.int (nI k))]) dX9_fitsRow_82 rfl (Nat.le_of_ble_eq_true rfl) rfl rfl ?_
          refine ex_aload_n dX9_fitsRow_83 rfl rfl ?_
          refine ex_getR (b := 59) dX9_fitsRow_84 rfl qp_8_19 rfl rfl ?_
          refine ex_aload_n dX9_fitsRow_87 rfl rfl ?_
          refine ex_getR (b := 74) dX9_fitsRow_88 rfl qp_8_64 rfl rfl ?_
          refine ex_iload_n dX9_fitsRow_91 rfl rfl ?_
          refine ex_iaload (k := k) (x := nI l) dX9_fitsRow_92 rfl rfl (rfl) (by omega) (by decide) (hrow) ?_
          refine ex_aload_n dX9_fitsRow_93 rfl rfl ?_
          refine ex_getR (b := 73) dX9_fitsRow_94 rfl qp_8_61 rfl rfl ?_
          refine ex_aload_n dX9_fitsRow_97 rfl rfl ?_
          refine ex_getR (b := 74) dX9_fitsRow_98 rfl qp_8_64 rfl rfl ?_
          refine ex_iload_n dX9_fitsRow_101 rfl rfl ?_
          refine ex_iaload (k := k) (x := nI l) dX9_fitsRow_102 rfl rfl (rfl) (by omega) (by decide) (hrow) ?_
          refine ex_iaload (k := l) (x := nI (tn_c T l)) dX9_fitsRow_103 rfl rfl (rfl) (by omega) (by decide) (hkp) ?_
          refine ex_iastore (k := l) (σ' := qm_wF σ1 45 l (nI (tn_c T l))) dX9_fitsRow_104 rfl rfl (rfl) (by omega) (by decide) rfl ?_
          refine ex_iinc (y := nI (k + 1)) (ls' := [some (.ref 55), some (.int ov), some (.int 0), some (.int (nI (k + 1)))]) dX9_fitsRow_105 rfl rfl rfl (nI_add k 1) rfl ?_
          refine ex_goto (q := 31) dX9_fitsRow_108 rfl ?_
          exact hE

set_option maxRecDepth 8000 in
set_option maxHeartbeats 2000000 in
theorem l_fits1 {T : tn_T} (hT : tn_ok T) {ov : Int32} {out : Nat} (hov : ∀ l, l < 7 → (nI l = ov ↔ out.testBit l = true)) {os : List Nat} (hos : ∀ l ∈ os, (tn_u T).testBit l = true) : ∀ (r k : Nat) (σ1 : qm_St), k + r = tn_L T → MS σ1 T → (∀ l, l < tn_L T → qm_rF σ1 44 l = nI (tn_b T l)) → (∀ l, l < k → qm_rF σ1 45 l = -1) → KP σ1 T → RR σ1 os → ∃ σ', Ex qm_lay 6 mX9_fitsRow 8 [some (.ref 55), some (.int ov), some (.int 1), some (.int (nI k))] [] σ1 (some (.int (b2i (fo (okR T out) 0 os)))) σ' ∧ MR σ' T ∧ ∃ σ2, sm σ1 σ2 28 28 45 46 ∧ sm σ2 σ' 28 29 44 47 := by
  have hL := hT.1
  intro r
  induction r with
  | zero =>
    intro k σ1 hk hM hb h0 hK hor
    have hM2 : MW σ1 (tn_su T 0) := ⟨hM, fun l hl => ⟨hb l hl, by
      rw [h0 l (show l < k by have : l < tn_L T := hl; omega)]
      show (-1 : Int32) = if (0 : Nat).testBit l = true then _ else -1
      rw [Nat.zero_testBit, if_neg (by decide)]⟩⟩
    obtain ⟨σ', hE, hR, hs⟩ := l_fits2 hT hov hos os.length 0 0 true σ1 (by omega) (Nat.two_pow_pos _) (fun l hl => by rw [Nat.zero_testBit] at hl; cases hl) hM2 hK hor
    rw [List.drop_zero, Bool.true_and] at hE
    refine ⟨σ', ?_, hR, hs⟩
    refine ex_iload_n dX9_fitsRow_8 rfl rfl ?_
    refine ex_aload_n dX9_fitsRow_9 rfl rfl ?_
    refine ex_getI (s := 27) (x := nI (tn_L T)) dX9_fitsRow_10 rfl qp_8_78 rfl rfl (hM.1) ?_
    refine ex_icmp_ge (q := 29) (q2 := 16) dX9_fitsRow_13 rfl rfl (fun _ => ?_) (fun hh => absurd (nI_le (a := (tn_L T)) (b := k) (by omega) (by omega)) hh)
    refine ex_iconst (x := 0) dX9_fitsRow_29 rfl rfl ?_
    refine ex_istore_n (ls' := [some (.ref 55), some (.int ov), some (.int 1), some (.int 0)]) dX9_fitsRow_30 rfl (Nat.le_of_ble_eq_true rfl) rfl rfl ?_
    exact hE
  | succ r ih =>
    intro k σ1 hk hM hb h0 hK hor
    have hg : sm σ1 (qm_wF σ1 45 k (-1)) 28 28 45 46 := (sm.rf σ1 28 28 45 46).wF _ (by omega)
    obtain ⟨σ', hE, hR, σ2, hs1, hs2⟩ := ih (k + 1) _ (by omega) (hM.sm hg (by omega) (by omega)) (fun l hl => by rw [hg.2 _ (by omega)]; exact hb l hl) (fun l hl => by
      by_cases e : l = k
      · rw [e, rF_eq]
      · rw [rF_ne (Or.inr e)]; exact h0 l (by omega)) (hK.sm hg (by omega) (by omega)) (hor.sm hg (by omega) (by omega))
    refine ⟨σ', ?_, hR, σ2, hg.tr hs1, hs2⟩
    refine ex_iload_n dX9_fitsRow_8 rfl rfl ?_
    refine ex_aload_n dX9_fitsRow_9 rfl rfl ?_
    refine ex_getI (s := 27) (x := nI (tn_L T)) dX9_fitsRow_10 rfl qp_8_78 rfl rfl (hM.1) ?_
    refine ex_icmp_ge (q := 29) (q2 := 16) dX9_fitsRow_13 rfl rfl (fun hh => absurd hh (nI_ge (a := k) (b := (tn_L T)) (by omega) (by omega))) (fun _ => ?_)
    refine ex_aload_n dX9_fitsRow_16 rfl rfl ?_
    refine ex_getR (b := 59) dX9_fitsRow_17 rfl qp_8_19 rfl rfl ?_
    refine ex_iload_n dX9_fitsRow_20 rfl rfl ?_
    refine ex_iconst (x := (-1)) dX9_fitsRow_21 rfl rfl ?_
    refine ex_iastore (k := k) (σ' := qm_wF σ1 45 k (-1)) dX9_fitsRow_22 rfl rfl (rfl) (by omega) (by decide) rfl ?_
    refine ex_iinc (y := nI (k + 1)) (ls' := [some (.ref 55), some (.int ov), some (.int 1), some (.int (nI (k + 1)))]) dX9_fitsRow_23 rfl rfl rfl (nI_add k 1) rfl ?_
    refine ex_goto (q := 8) dX9_fitsRow_26 rfl ?_
    exact hE

set_option maxRecDepth 8000 in
set_option maxHeartbeats 2000000 in
theorem k_fitsRow {σ : qm_St} {T : tn_T} (hT : tn_ok T) (h : MR σ T) {ov : Int32} {out : Nat} (hov : ∀ l, l < 7 → (nI l = ov ↔ out.testBit l = true)) {os : List Nat} (hos : ∀ l ∈ os, (tn_u T).testBit l = true) (hor : RR σ os) : ∃ σ', Ok qm_lay 6 mX9_fitsRow [.ref 55, .int ov] σ (some (.int (b2i (fo (okR T out) 0 os)))) σ' ∧ MR σ' T ∧ sl σ σ' 43 44 44 47 59 60 := by
  obtain ⟨σ1, hO1, hK1, hs1⟩ := k_keeps hT h
  have h1 := h.sm hs1 (by omega) (by omega)
  obtain ⟨σ', hE, hR, σ2, hs2, hs3⟩ := l_fits1 hT hov hos (tn_L T) 0 σ1 (by omega) h1.1 (fun l hl => MR.bb h1 hl) (fun l hl => absurd hl (Nat.not_lt_zero l)) hK1 (hor.sm hs1 (by omega) (by omega))
  refine ⟨σ', ?_, hR, back_sl2 h hR hs1 (hs2.wid (by omega) (by omega)) hs3⟩
  refine Ok.of (ls := [some (.ref 55), some (.int ov), none, none]) (Nat.le_of_ble_eq_true rfl) rfl ?_
  refine ex_iconst (x := 1) dX9_fitsRow_0 rfl rfl ?_
  refine ex_istore_n (ls' := [some (.ref 55), some (.int ov), some (.int 1), none]) dX9_fitsRow_1 rfl (Nat.le_of_ble_eq_true rfl) rfl rfl ?_
  refine ex_aload_n dX9_fitsRow_2 rfl rfl ?_
  refine ex_callV (a := 55) (rest := []) dX9_fitsRow_3 rfl qp_8_226 rfl rfl rfl rfl rfl (Nat.le_of_ble_eq_true rfl) (hO1) (Nat.le_of_ble_eq_true rfl) ?_
  show Ex qm_lay _ mX9_fitsRow 6 [some (.ref 55), some (.int ov), some (.int 1), none] [] σ1 _ _
  refine ex_iconst (x := 0) dX9_fitsRow_6 rfl rfl ?_
  refine ex_istore_n (ls' := [some (.ref 55), some (.int ov), some (.int 1), some (.int 0)]) dX9_fitsRow_7 rfl (Nat.le_of_ble_eq_true rfl) rfl rfl ?_
  exact hE

set_option maxRecDepth 8000 in
set_option maxHeartbeats 2000000 in
theorem l_fitting {T : tn_T} (hT : tn_ok T) {ov : Int32} {out : Nat} (hov : ∀ l, l < 7 → (nI l = ov ↔ out.testBit l = true)) : ∀ (ps : List (List Nat)) (os : List Nat) (m : Nat) (F : Int32) (σ : qm_St), ch (os :: ps) = true → (∀ o ∈ os :: ps, ∀ l ∈ o, (tn_u T).testBit l = true) → m + ps.length + 1 < 2 ^ 31 → MR σ T → RR σ os → qm_rI σ 45 = F → ∃ σ', Ex qm_lay 12 mX9_fittingRows 17 [some (.ref 55), some (.int ov), some (.int (nI m)), some (.int 1)] [] σ (some (.int (nI (m + cp (fo (okR T out) 0) (os :: ps))))) σ' ∧ MR σ' T ∧ qm_rI σ' 45 = gF (fo (okR T out) 0) (os :: ps) m F ∧ sl σ σ' 43 46 44 47 59 61 := by
  have hL := hT.1
  intro ps
  induction ps with
  | nil =>
    intro os m F σ hch hel hm h hor h45
    have hos := hel os List.mem_cons_self
    have ho7 := hor.2.1
    rw [List.length_nil] at hm
    obtain ⟨σ1, hO, hR, hs1⟩ := k_fitsRow hT h hov hos hor
    have hor1 := hor.sl hs1
    have h451 : qm_rI σ1 45 = F := by rw [hs1.1 _ (by omega)]; exact h45
    have hosL : ∀ l ∈ os, l < 7 := fun l hl => Nat.lt_of_lt_of_le (bit_lt hT.2.2.1 (hos l hl)) hL
    have hnx : nx os = none := of_decide_eq_true hch
    cases e : fo (okR T out) 0 os with
    | true =>
      rw [e] at hO
      rw [gF_t e, show cp (fo (okR T out) 0) (os :: []) = 1 + cp (fo (okR T out) 0) [] by show (if fo (okR T out) 0 os = true then 1 else 0) + _ = _; rw [if_pos e]]
      have hg : sm σ1 (qm_wI σ1 45 (if m = 0 then nI (dg os) else F)) 45 46 60 60 := (sm.rf σ1 45 46 60 60).wI _ (by omega)
      have hor2 := hor1.sm hg (by omega) (by omega)
      have h452 : qm_rI (qm_wI σ1 45 (if m = 0 then nI (dg os) else F)) 45 = (if m = 0 then nI (dg os) else F) := rfl
      obtain ⟨σ2, hO2, hR2, hs2⟩ := k_nextRow hor2 hosL
      have h2 := (hR.sm hg (by omega) (by omega)).sm hs2 (by omega) (by omega)
      have h45b : qm_rI σ2 45 = (if m = 0 then nI (dg os) else F) := by rw [hs2.1 _ (by omega)]; exact h452
      have hsl : sl σ σ2 43 46 44 47 59 61 := ⟨fun s hs => by rw [hs2.1 s (by omega), hg.1 s (by omega), hs1.1 s (by omega)], fun r hr hr2 k => by rw [hs2.2 r (by omega), hg.2 r (by omega), hs1.2 r (by omega) (by omega)]⟩
      rw [hnx] at hO2
      refine ⟨σ2, ?_, h2, ?_, hsl⟩
      · by_cases cm : m = 0
        · refine ex_iload_n dX9_fittingRows_17 rfl rfl ?_
          refine ex_if_eq (q := 59) (q2 := 21) dX9_fittingRows_18 rfl rfl (fun hh => absurd hh (by decide)) (fun _ => ?_)
          refine ex_aload_n dX9_fittingRows_21 rfl rfl ?_
          refine ex_iload_n dX9_fittingRows_22 rfl rfl ?_
          refine ex_callV (a := 55) (rest := []) dX9_fittingRows_23 rfl qp_8_281 rfl rfl rfl rfl rfl (Nat.le_of_ble_eq_true rfl) (hO) (Nat.le_of_ble_eq_true rfl) ?_
          show Ex qm_lay _ mX9_fittingRows 26 [some (.ref 55), some (.int ov), some (.int (nI m)), some (.int 1)] [.int 1] σ1 _ _
          refine ex_if_eq (q := 51) (q2 := 29) dX9_fittingRows_26 rfl rfl (fun hh => absurd hh (by decide)) (fun _ => ?_)
          refine ex_aload_n dX9_fittingRows_29 rfl rfl ?_
          refine ex_iload_n dX9_fittingRows_30 rfl rfl ?_
          refine ex_if_ne (q := 41) (q2 := 34) dX9_fittingRows_31 rfl rfl (fun hh => absurd hh (fun zz => zz (by rw [cm]; rfl))) (fun _ => ?_)
          refine ex_aload_n dX9_fittingRows_34 rfl rfl ?_
          refine ex_callV (a := 55) (rest := [.ref 55]) dX9_fittingRows_35 rfl qp_8_253 rfl rfl rfl rfl rfl (Nat.le_of_ble_eq_true rfl) (k_rowDigits hor1) (Nat.le_of_ble_eq_true rfl) ?_
          show Ex qm_lay _ mX9_fittingRows 38 [some (.ref 55), some (.int ov), some (.int (nI m)), some (.int 1)] [.int (nI (dg os)), .ref 55] σ1 _ _
          refine ex_goto (q := 45) dX9_fittingRows_38 rfl ?_
          refine ex_put (σ' := qm_wI σ1 45 (nI (dg os))) dX9_fittingRows_45 rfl qp_8_278 rfl rfl (Or.inl rfl) rfl ?_
          refine ex_iinc (y := nI (m + 1)) (ls' := [some (.ref 55), some (.int ov), some (.int (nI (m + 1))), some (.int 1)]) dX9_fittingRows_48 rfl rfl rfl (nI_add m 1) rfl ?_
          refine ex_aload_n dX9_fittingRows_51 rfl rfl ?_
          refine ex_callV (a := 55) (rest := []) dX9_fittingRows_52 rfl qp_8_256 rfl rfl rfl rfl rfl (Nat.le_of_ble_eq_true rfl) ((by rw [if_pos cm] at hO2; exact hO2)) (Nat.le_of_ble_eq_true rfl) ?_
          show Ex qm_lay _ mX9_fittingRows 55 [some (.ref 55), some (.int ov), some (.int (nI (m + 1))), some (.int 1)] [.int 0] σ2 _ _
          refine ex_istore_n (ls' := [some (.ref 55), some (.int ov), some (.int (nI (m + 1))), some (.int 0)]) dX9_fittingRows_55 rfl (Nat.le_of_ble_eq_true rfl) rfl rfl ?_
          refine ex_goto (q := 17) dX9_fittingRows_56 rfl ?_
          refine ex_iload_n dX9_fittingRows_17 rfl rfl ?_
          refine ex_if_eq (q := 59) (q2 := 21) dX9_fittingRows_18 rfl rfl (fun _ => ?_) (fun hh => absurd (by decide) hh)
          refine ex_iload_n dX9_fittingRows_59 rfl rfl ?_
          exact ex_iret dX9_fittingRows_60 rfl rfl rfl
        · refine ex_iload_n dX9_fittingRows_17 rfl rfl ?_
          refine ex_if_eq (q := 59) (q2 := 21) dX9_fittingRows_18 rfl rfl (fun hh => absurd hh (by decide)) (fun _ => ?_)
          refine ex_aload_n dX9_fittingRows_21 rfl rfl ?_
          refine ex_iload_n dX9_fittingRows_22 rfl rfl ?_
          refine ex_callV (a := 55) (rest := []) dX9_fittingRows_23 rfl qp_8_281 rfl rfl rfl rfl rfl (Nat.le_of_ble_eq_true rfl) (hO) (Nat.le_of_ble_eq_true rfl) ?_
          show Ex qm_lay _ mX9_fittingRows 26 [some (.ref 55), some (.int ov), some (.int (nI m)), some (.int 1)] [.int 1] σ1 _ _
          refine ex_if_eq (q := 51) (q2 := 29) dX9_fittingRows_26 rfl rfl (fun hh => absurd hh (by decide)) (fun _ => ?_)
          refine ex_aload_n dX9_fittingRows_29 rfl rfl ?_
          refine ex_iload_n dX9_fittingRows_30 rfl rfl ?_
          refine ex_if_ne (q := 41) (q2 := 34) dX9_fittingRows_31 rfl rfl (fun _ => ?_) (fun hh => absurd (fun zz => cm ((nI_eq (b := 0) (by omega) (by decide)).mp zz)) hh)
          refine ex_aload_n dX9_fittingRows_41 rfl rfl ?_
          refine ex_getI (s := 45) (x := F) dX9_fittingRows_42 rfl qp_8_278 rfl rfl (h451) ?_
          refine ex_put (σ' := qm_wI σ1 45 F) dX9_fittingRows_45 rfl qp_8_278 rfl rfl (Or.inl rfl) rfl ?_
          refine ex_iinc (y := nI (m + 1)) (ls' := [some (.ref 55), some (.int ov), some (.int (nI (m + 1))), some (.int 1)]) dX9_fittingRows_48 rfl rfl rfl (nI_add m 1) rfl ?_
          refine ex_aload_n dX9_fittingRows_51 rfl rfl ?_
          refine ex_callV (a := 55) (rest := []) dX9_fittingRows_52 rfl qp_8_256 rfl rfl rfl rfl rfl (Nat.le_of_ble_eq_true rfl) ((by rw [if_neg cm] at hO2; exact hO2)) (Nat.le_of_ble_eq_true rfl) ?_
          show Ex qm_lay _ mX9_fittingRows 55 [some (.ref 55), some (.int ov), some (.int (nI (m + 1))), some (.int 1)] [.int 0] σ2 _ _
          refine ex_istore_n (ls' := [some (.ref 55), some (.int ov), some (.int (nI (m + 1))), some (.int 0)]) dX9_fittingRows_55 rfl (Nat.le_of_ble_eq_true rfl) rfl rfl ?_
          refine ex_goto (q := 17) dX9_fittingRows_56 rfl ?_
          refine ex_iload_n dX9_fittingRows_17 rfl rfl ?_
          refine ex_if_eq (q := 59) (q2 := 21) dX9_fittingRows_18 rfl rfl (fun _ => ?_) (fun hh => absurd (by decide) hh)
          refine ex_iload_n dX9_fittingRows_59 rfl rfl ?_
          exact ex_iret dX9_fittingRows_60 rfl rfl rfl
      · rw [h45b]; unfold gF; split <;> rfl
    | false =>
      rw [e] at hO
      rw [gF_f e, show cp (fo (okR T out) 0) (os :: []) = cp (fo (okR T out) 0) [] by show (if fo (okR T out) 0 os = true then 1 else 0) + _ = _; rw [e, if_neg (by decide), Nat.zero_add]]
      obtain ⟨σ2, hO2, hR2, hs2⟩ := k_nextRow hor1 hosL
      have h2 := hR.sm hs2 (by omega) (by omega)
      have h45b : qm_rI σ2 45 = F := by rw [hs2.1 _ (by omega)]; exact h451
      have hsl : sl σ σ2 43 46 44 47 59 61 := ⟨fun s hs => by rw [hs2.1 s (by omega), hs1.1 s (by omega)], fun r hr hr2 k => by rw [hs2.2 r (by omega), hs1.2 r (by omega) (by omega)]⟩
      rw [hnx] at hO2
      refine ⟨σ2, ?_, h2, ?_, hsl⟩
      · refine ex_iload_n dX9_fittingRows_17 rfl rfl ?_
        refine ex_if_eq (q := 59) (q2 := 21) dX9_fittingRows_18 rfl rfl (fun hh => absurd hh (by decide)) (fun _ => ?_)
        refine ex_aload_n dX9_fittingRows_21 rfl rfl ?_
        refine ex_iload_n dX9_fittingRows_22 rfl rfl ?_
        refine ex_callV (a := 55) (rest := []) dX9_fittingRows_23 rfl qp_8_281 rfl rfl rfl rfl rfl (Nat.le_of_ble_eq_true rfl) (hO) (Nat.le_of_ble_eq_true rfl) ?_
        show Ex qm_lay _ mX9_fittingRows 26 [some (.ref 55), some (.int ov), some (.int (nI m)), some (.int 1)] [.int 0] σ1 _ _
        refine ex_if_eq (q := 51) (q2 := 29) dX9_fittingRows_26 rfl rfl (fun _ => ?_) (fun hh => absurd (by decide) hh)
        refine ex_aload_n dX9_fittingRows_51 rfl rfl ?_
        refine ex_callV (a := 55) (rest := []) dX9_fittingRows_52 rfl qp_8_256 rfl rfl rfl rfl rfl (Nat.le_of_ble_eq_true rfl) (hO2) (Nat.le_of_ble_eq_true rfl) ?_
        show Ex qm_lay _ mX9_fittingRows 55 [some (.ref 55), some (.int ov), some (.int (nI m)), some (.int 1)] [.int 0] σ2 _ _
        refine ex_istore_n (ls' := [some (.ref 55), some (.int ov), some (.int (nI m)), some (.int 0)]) dX9_fittingRows_55 rfl (Nat.le_of_ble_eq_true rfl) rfl rfl ?_
        refine ex_goto (q := 17) dX9_fittingRows_56 rfl ?_
        refine ex_iload_n dX9_fittingRows_17 rfl rfl ?_
        refine ex_if_eq (q := 59) (q2 := 21) dX9_fittingRows_18 rfl rfl (fun _ => ?_) (fun hh => absurd (by decide) hh)
        refine ex_iload_n dX9_fittingRows_59 rfl rfl ?_
        exact ex_iret dX9_fittingRows_60 rfl rfl rfl
      · rw [h45b]; unfold gF; split <;> rfl
  | cons o2 ps ih =>
    intro os m F σ hch hel hm h hor h45
    have hos := hel os List.mem_cons_self
    have ho7 := hor.2.1
    rw [List.length_cons] at hm
    obtain ⟨σ1, hO, hR, hs1⟩ := k_fitsRow hT h hov hos hor
    have hor1 := hor.sl hs1
    have h451 : qm_rI σ1 45 = F := by rw [hs1.1 _ (by omega)]; exact h45
    have hosL : ∀ l ∈ os, l < 7 := fun l hl => Nat.lt_of_lt_of_le (bit_lt hT.2.2.1 (hos l hl)) hL
    have hch2 : nx os = some o2 ∧ ch (o2 :: ps) = true := by
      have z : (decide (nx os = some o2) && ch (o2 :: ps)) = true := hch
      rw [Bool.and_eq_true] at z
      exact ⟨of_decide_eq_true z.1, z.2⟩
    cases e : fo (okR T out) 0 os with
    | true =>
      rw [e] at hO
      rw [gF_t e, show cp (fo (okR T out) 0) (os :: (o2 :: ps)) = 1 + cp (fo (okR T out) 0) (o2 :: ps) by show (if fo (okR T out) 0 os = true then 1 else 0) + _ = _; rw [if_pos e]]
      have hg : sm σ1 (qm_wI σ1 45 (if m = 0 then nI (dg os) else F)) 45 46 60 60 := (sm.rf σ1 45 46 60 60).wI _ (by omega)
      have hor2 := hor1.sm hg (by omega) (by omega)
      have h452 : qm_rI (qm_wI σ1 45 (if m = 0 then nI (dg os) else F)) 45 = (if m = 0 then nI (dg os) else F) := rfl
      obtain ⟨σ2, hO2, hR2, hs2⟩ := k_nextRow hor2 hosL
      have h2 := (hR.sm hg (by omega) (by omega)).sm hs2 (by omega) (by omega)
      have h45b : qm_rI σ2 45 = (if m = 0 then nI (dg os) else F) := by rw [hs2.1 _ (by omega)]; exact h452
      have hsl : sl σ σ2 43 46 44 47 59 61 := ⟨fun s hs => by rw [hs2.1 s (by omega), hg.1 s (by omega), hs1.1 s (by omega)], fun r hr hr2 k => by rw [hs2.2 r (by omega), hg.2 r (by omega), hs1.2 r (by omega) (by omega)]⟩
      rw [hch2.1] at hO2 hR2
      obtain ⟨σ3, hE, h3, h453, hsl3⟩ := ih o2 (m + 1) (if m = 0 then nI (dg os) else F) σ2 hch2.2 (fun o ho => hel o (List.mem_cons_of_mem _ ho)) (by omega) h2 hR2 h45b
      refine ⟨σ3, ?_, h3, h453, hsl.tr hsl3⟩
      rw [← Nat.add_assoc]
      by_cases cm : m = 0
      · refine ex_iload_n dX9_fittingRows_17 rfl rfl ?_
        refine ex_if_eq (q := 59) (q2 := 21) dX9_fittingRows_18 rfl rfl (fun hh => absurd hh (by decide)) (fun _ => ?_)
        refine ex_aload_n dX9_fittingRows_21 rfl rfl ?_
        refine ex_iload_n dX9_fittingRows_22 rfl rfl ?_
        refine ex_callV (a := 55) (rest := []) dX9_fittingRows_23 rfl qp_8_281 rfl rfl rfl rfl rfl (Nat.le_of_ble_eq_true rfl) (hO) (Nat.le_of_ble_eq_true rfl) ?_
        show Ex qm_lay _ mX9_fittingRows 26 [some (.ref 55), some (.int ov), some (.int (nI m)), some (.int 1)] [.int 1] σ1 _ _
        refine ex_if_eq (q := 51) (q2 := 29) dX9_fittingRows_26 rfl rfl (fun hh => absurd hh (by decide)) (fun _ => ?_)
        refine ex_aload_n dX9_fittingRows_29 rfl rfl ?_
        refine ex_iload_n dX9_fittingRows_30 rfl rfl ?_
        refine ex_if_ne (q := 41) (q2 := 34) dX9_fittingRows_31 rfl rfl (fun hh => absurd hh (fun zz => zz (by rw [cm]; rfl))) (fun _ => ?_)
        refine ex_aload_n dX9_fittingRows_34 rfl rfl ?_
        refine ex_callV (a := 55) (rest := [.ref 55]) dX9_fittingRows_35 rfl qp_8_253 rfl rfl rfl rfl rfl (Nat.le_of_ble_eq_true rfl) (k_rowDigits hor1) (Nat.le_of_ble_eq_true rfl) ?_
        show Ex qm_lay _ mX9_fittingRows 38 [some (.ref 55), some (.int ov), some (.int (nI m)), some (.int 1)] [.int (nI (dg os)), .ref 55] σ1 _ _
        refine ex_goto (q := 45) dX9_fittingRows_38 rfl ?_
        refine ex_put (σ' := qm_wI σ1 45 (nI (dg os))) dX9_fittingRows_45 rfl qp_8_278 rfl rfl (Or.inl rfl) rfl ?_
        refine ex_iinc (y := nI (m + 1)) (ls' := [some (.ref 55), some (.int ov), some (.int (nI (m + 1))), some (.int 1)]) dX9_fittingRows_48 rfl rfl rfl (nI_add m 1) rfl ?_
        refine ex_aload_n dX9_fittingRows_51 rfl rfl ?_
        refine ex_callV (a := 55) (rest := []) dX9_fittingRows_52 rfl qp_8_256 rfl rfl rfl rfl rfl (Nat.le_of_ble_eq_true rfl) ((by rw [if_pos cm] at hO2; exact hO2)) (Nat.le_of_ble_eq_true rfl) ?_
        show Ex qm_lay _ mX9_fittingRows 55 [some (.ref 55), some (.int ov), some (.int (nI (m + 1))), some (.int 1)] [.int 1] σ2 _ _
        refine ex_istore_n (ls' := [some (.ref 55), some (.int ov), some (.int (nI (m + 1))), some (.int 1)]) dX9_fittingRows_55 rfl (Nat.le_of_ble_eq_true rfl) rfl rfl ?_
        refine ex_goto (q := 17) dX9_fittingRows_56 rfl ?_
        exact hE
      · refine ex_iload_n dX9_fittingRows_17 rfl rfl ?_
        refine ex_if_eq (q := 59) (q2 := 21) dX9_fittingRows_18 rfl rfl (fun hh => absurd hh (by decide)) (fun _ => ?_)
        refine ex_aload_n dX9_fittingRows_21 rfl rfl ?_
        refine ex_iload_n dX9_fittingRows_22 rfl rfl ?_
        refine ex_callV (a := 55) (rest := []) dX9_fittingRows_23 rfl qp_8_281 rfl rfl rfl rfl rfl (Nat.le_of_ble_eq_true rfl) (hO) (Nat.le_of_ble_eq_true rfl) ?_
        show Ex qm_lay _ mX9_fittingRows 26 [some (.ref 55), some (.int ov), some (.int (nI m)), some (.int 1)] [.int 1] σ1 _ _
        refine ex_if_eq (q := 51) (q2 := 29) dX9_fittingRows_26 rfl rfl (fun hh => absurd hh (by decide)) (fun _ => ?_)
        refine ex_aload_n dX9_fittingRows_29 rfl rfl ?_
        refine ex_iload_n dX9_fittingRows_30 rfl rfl ?_
        refine ex_if_ne (q := 41) (q2 := 34) dX9_fittingRows_31 rfl rfl (fun _ => ?_) (fun hh => absurd (fun zz => cm ((nI_eq (b := 0) (by omega) (by decide)).mp zz)) hh)
        refine ex_aload_n dX9_fittingRows_41 rfl rfl ?_
        refine ex_getI (s := 45) (x := F) dX9_fittingRows_42 rfl qp_8_278 rfl rfl (h451) ?_
        refine ex_put (σ' := qm_wI σ1 45 F) dX9_fittingRows_45 rfl qp_8_278 rfl rfl (Or.inl rfl) rfl ?_
        refine ex_iinc (y := nI (m + 1)) (ls' := [some (.ref 55), some (.int ov), some (.int (nI (m + 1))), some (.int 1)]) dX9_fittingRows_48 rfl rfl rfl (nI_add m 1) rfl ?_
        refine ex_aload_n dX9_fittingRows_51 rfl rfl ?_
        refine ex_callV (a := 55) (rest := []) dX9_fittingRows_52 rfl qp_8_256 rfl rfl rfl rfl rfl (Nat.le_of_ble_eq_true rfl) ((by rw [if_neg cm] at hO2; exact hO2)) (Nat.le_of_ble_eq_true rfl) ?_
        show Ex qm_lay _ mX9_fittingRows 55 [some (.ref 55), some (.int ov), some (.int (nI (m + 1))), some (.int 1)] [.int 1] σ2 _ _
        refine ex_istore_n (ls' := [some (.ref 55), some (.int ov), some (.int (nI (m + 1))), some (.int 1)]) dX9_fittingRows_55 rfl (Nat.le_of_ble_eq_true rfl) rfl rfl ?_
        refine ex_goto (q := 17) dX9_fittingRows_56 rfl ?_
        exact hE
    | false =>
      rw [e] at hO
      rw [gF_f e, show cp (fo (okR T out) 0) (os :: (o2 :: ps)) = cp (fo (okR T out) 0) (o2 :: ps) by show (if fo (okR T out) 0 os = true then 1 else 0) + _ = _; rw [e, if_neg (by decide), Nat.zero_add]]
      obtain ⟨σ2, hO2, hR2, hs2⟩ := k_nextRow hor1 hosL
      have h2 := hR.sm hs2 (by omega) (by omega)
      have h45b : qm_rI σ2 45 = F := by rw [hs2.1 _ (by omega)]; exact h451
      have hsl : sl σ σ2 43 46 44 47 59 61 := ⟨fun s hs => by rw [hs2.1 s (by omega), hs1.1 s (by omega)], fun r hr hr2 k => by rw [hs2.2 r (by omega), hs1.2 r (by omega) (by omega)]⟩
      rw [hch2.1] at hO2 hR2
      obtain ⟨σ3, hE, h3, h453, hsl3⟩ := ih o2 m F σ2 hch2.2 (fun o ho => hel o (List.mem_cons_of_mem _ ho)) (by omega) h2 hR2 h45b
      refine ⟨σ3, ?_, h3, h453, hsl.tr hsl3⟩
      refine ex_iload_n dX9_fittingRows_17 rfl rfl ?_
      refine ex_if_eq (q := 59) (q2 := 21) dX9_fittingRows_18 rfl rfl (fun hh => absurd hh (by decide)) (fun _ => ?_)
      refine ex_aload_n dX9_fittingRows_21 rfl rfl ?_
      refine ex_iload_n dX9_fittingRows_22 rfl rfl ?_
      refine ex_callV (a := 55) (rest := []) dX9_fittingRows_23 rfl qp_8_281 rfl rfl rfl rfl rfl (Nat.le_of_ble_eq_true rfl) (hO) (Nat.le_of_ble_eq_true rfl) ?_
      show Ex qm_lay _ mX9_fittingRows 26 [some (.ref 55), some (.int ov), some (.int (nI m)), some (.int 1)] [.int 0] σ1 _ _
      refine ex_if_eq (q := 51) (q2 := 29) dX9_fittingRows_26 rfl rfl (fun _ => ?_) (fun hh => absurd (by decide) hh)
      refine ex_aload_n dX9_fittingRows_51 rfl rfl ?_
      refine ex_callV (a := 55) (rest := []) dX9_fittingRows_52 rfl qp_8_256 rfl rfl rfl rfl rfl (Nat.le_of_ble_eq_true rfl) (hO2) (Nat.le_of_ble_eq_true rfl) ?_
      show Ex qm_lay _ mX9_fittingRows 55 [some (.ref 55), some (.int ov), some (.int (nI m)), some (.int 1)] [.int 1] σ2 _ _
      refine ex_istore_n (ls' := [some (.ref 55), some (.int ov), some (.int (nI m)), some (.int 1)]) dX9_fittingRows_55 rfl (Nat.le_of_ble_eq_true rfl) rfl rfl ?_
      refine ex_goto (q := 17) dX9_fittingRows_56 rfl ?_
      exact hE

set_option maxRecDepth 8000 in
set_option maxHeartbeats 2000000 in
theorem k_fittingRows {σ : qm_St} {T : tn_T} (hT : tn_ok T) (h : MR σ T) {ov : Int32} {out : Nat} (hov : ∀ l, l < 7 → (nI l = ov ↔ out.testBit l = true)) : ∃ σ', Ok qm_lay 12 mX9_fittingRows [.ref 55, .int ov] σ (some (.int (nI (wv (okR T out) (tn_L T) (tn_u T) 0)))) σ' ∧ MR σ' T ∧ qm_rI σ' 45 = fvI (fv (okR T out) (tn_L T) (tn_u T) 0) ∧ sl σ σ' 43 46 44 47 59 61 := by
  have hL := hT.1
  have hu := tn_u_lt hT
  have hub := hT.2.2.1
  obtain ⟨os, ps, eP, eo⟩ := pm_first (tn_u T) hu
  obtain ⟨hch, hel⟩ := pm_good (tn_u T) hu
  have hmany := pm_many 7 (bl 7 (tn_u T)) (bl_len _)
  rw [eP] at hch hel hmany
  have ewv : wv (okR T out) (tn_L T) (tn_u T) 0 = cp (fo (okR T out) 0) (os :: ps) := by rw [wv, sd_r0 hu, bl_7 hL hub, eP]
  have efv : fv (okR T out) (tn_L T) (tn_u T) 0 = fs (fo (okR T out) 0) (os :: ps) := by rw [fv, sd_r0 hu, bl_7 hL hub, eP]
  obtain ⟨σ1, hO1, hR1, hs1⟩ := k_begins hT h hu
  rw [bl_7 hL hub, ← eo] at hR1
  have hg : sm σ1 (qm_wI σ1 45 (-1)) 45 46 60 60 := (sm.rf σ1 45 46 60 60).wI _ (by omega)
  obtain ⟨σ', hE, hM, h45, hsl⟩ := l_fitting hT hov ps os 0 (-1) (qm_wI σ1 45 (-1)) hch (fun o ho l hl => ((hel o ho).2 l hl).2) (by rw [List.length_cons] at hmany; have h30 : (2 : Nat) ^ (3 * 7) < 2 ^ 30 := (by decide); omega) ((h.sm hs1 (by omega) (by omega)).sm hg (by omega) (by omega)) (hR1.sm hg (by omega) (by omega)) rfl
  rw [Nat.zero_add] at hE
  rw [ewv, efv]
  refine ⟨σ', ?_, hM, h45, ⟨fun s hs => by rw [hsl.1 s hs, hg.1 s (by omega), hs1.1 s (by omega)], fun r hr hr2 k => by rw [hsl.2 r hr hr2, hg.2 r (by omega), hs1.2 r (by omega)]⟩⟩
  refine Ok.of (ls := [some (.ref 55), some (.int ov), none, none]) (Nat.le_of_ble_eq_true rfl) rfl ?_
  refine ex_aload_n dX9_fittingRows_0 rfl rfl ?_
  refine ex_aload_n dX9_fittingRows_1 rfl rfl ?_
  refine ex_callV (a := 55) (rest := [.ref 55]) dX9_fittingRows_2 rfl qp_8_96 rfl rfl rfl rfl rfl (Nat.le_of_ble_eq_true rfl) (k_builtSet hT h) (Nat.le_of_ble_eq_true rfl) ?_
  show Ex qm_lay _ mX9_fittingRows 5 [some (.ref 55), some (.int ov), none, none] [.int (nI (tn_u T)), .ref 55] σ _ _
  refine ex_callV (a := 55) (rest := []) dX9_fittingRows_5 rfl qp_8_247 rfl rfl rfl rfl rfl (Nat.le_of_ble_eq_true rfl) (hO1) (Nat.le_of_ble_eq_true rfl) ?_
  show Ex qm_lay _ mX9_fittingRows 8 [some (.ref 55), some (.int ov), none, none] [] σ1 _ _
  refine ex_iconst (x := 0) dX9_fittingRows_8 rfl rfl ?_
  refine ex_istore_n (ls' := [some (.ref 55), some (.int ov), some (.int 0), none]) dX9_fittingRows_9 rfl (Nat.le_of_ble_eq_true rfl) rfl rfl ?_
  refine ex_aload_n dX9_fittingRows_10 rfl rfl ?_
  refine ex_iconst (x := (-1)) dX9_fittingRows_11 rfl rfl ?_
  refine ex_put (σ' := qm_wI σ1 45 (-1)) dX9_fittingRows_12 rfl qp_8_278 rfl rfl (Or.inl rfl) rfl ?_
  refine ex_iconst (x := 1) dX9_fittingRows_15 rfl rfl ?_
  refine ex_istore_n (ls' := [some (.ref 55), some (.int ov), some (.int 0), some (.int 1)]) dX9_fittingRows_16 rfl (Nat.le_of_ble_eq_true rfl) rfl rfl ?_
  exact hE

