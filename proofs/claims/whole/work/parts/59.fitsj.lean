/-! ===== built, blame, plans ===== -/
theorem hov_n : ∀ l, l < 7 → (nI l = (-1 : Int32) ↔ (0 : Nat).testBit l = true) := fun l hl => ⟨fun e => absurd e (nI_ne_m1 (by omega)), fun e => by rw [Nat.zero_testBit] at e; cases e⟩
theorem hov_k {k : Nat} (hk : k < 7) : ∀ l, l < 7 → (nI l = nI k ↔ (2 ^ k).testBit l = true) := fun l hl => by
  rw [tb_2]
  constructor
  · intro e
    rw [(nI_eq (by omega) (by omega)).mp e]
    exact decide_eq_true rfl
  · intro e
    rw [of_decide_eq_true e]
theorem wv_b {σ : qm_St} {T : tn_T} (hT : tn_ok T) (h : TR σ 9 18 T) (out : Nat) : wv (co T 0 out (fun q => qm_rF σ 21 q)) (tn_L T) (tn_u T) 0 = wv (okR T out) (tn_L T) (tn_u T) 0 ∧ fv (co T 0 out (fun q => qm_rF σ 21 q)) (tn_L T) (tn_u T) 0 = fv (okR T out) (tn_L T) (tn_u T) 0 :=
  wv_cong hT.1 hT.2.2.1 (fun s l h1 h2 h3 => co_okR hT (fun q hq hb => TR.cc h hq hb) h1 h2 (bit_lt hT.2.2.1 h3) h3)
/-- whom to blame alone -/
def hB (T : tn_T) (l : Nat) : Bool := (tn_u T).testBit l && decide (0 < wv (okR T (2 ^ l)) (tn_L T) (tn_u T) 0)
theorem ff_m1 {f : Nat → Bool} : ∀ (r k : Nat), k + r < 2 ^ 31 → (ff f r k = -1 ↔ ∀ l, k ≤ l → l < k + r → f l = false)
  | 0, k, _ => ⟨fun _ l h1 h2 => by omega, fun _ => rfl⟩
  | r + 1, k, hk => by
    rw [ff]
    by_cases c : f k = true
    · rw [if_pos c]
      exact ⟨fun e => absurd e (nI_ne_m1 (by omega)), fun h => by rw [h k (Nat.le_refl k) (by omega)] at c; cases c⟩
    · rw [if_neg c, ff_m1 r (k + 1) (by omega)]
      constructor
      · intro h l h1 h2
        by_cases e : l = k
        · rw [e]; simpa using c
        · exact h l (by omega) (by omega)
      · intro h l h1 h2
        exact h l (by omega) (by omega)
/-- whether each takes what is told for it -/
def fp (f : Nat → Int32) : tn_T → List Nat → Bool
  | _, [] => true
  | T, a :: t => decide (nI (tn_wd T a) = f a) && fp f (tn_bh T a) t
theorem cv_bh (T : tn_T) (a l : Nat) : tn_cv (tn_bh T a) l = if l = a then nI (tn_wd T a) else tn_cv T l := by
  unfold tn_cv tn_bh
  rw [u_put]
  show (if ((tn_u T).testBit l || decide (a = l)) = true then nI (if l = a then tn_wd T a else tn_c T l) else -1) = _
  by_cases e : l = a
  · subst e; rw [decide_eq_true rfl, Bool.or_true, if_pos rfl, if_pos rfl, if_pos rfl]
  · rw [decide_eq_false (fun z => e z.symm), Bool.or_false, if_neg e, if_neg e]
theorem so_iff (f : Nat → Int32) : ∀ (n : Nat) (T : tn_T), tn_ok T → (tn_ul T).length ≤ n → ∀ os ∈ pm n (tn_ul T), ((∀ l, l < tn_L T → f l = tn_cv (tn_bl T os) l) ↔ (∀ l, l < tn_L T → (tn_u T).testBit l = true → f l = tn_cv T l) ∧ fp f T os = true) := by
  intro n
  have base : ∀ T : tn_T, tn_ul T = [] → ((∀ l, l < tn_L T → f l = tn_cv (tn_bl T []) l) ↔ (∀ l, l < tn_L T → (tn_u T).testBit l = true → f l = tn_cv T l) ∧ fp f T [] = true) := by
    intro T h0
    constructor
    · intro h; exact ⟨fun l hl _ => h l hl, rfl⟩
    · intro h l hl
      refine h.1 l hl ?_
      cases hz : (tn_u T).testBit l with
      | true => rfl
      | false =>
        have hm : l ∈ tn_ul T := List.mem_filter.mpr ⟨List.mem_range.mpr hl, by unfold tn_un; rw [hz]; rfl⟩
        rw [h0] at hm
        cases hm
  induction n with
  | zero =>
    intro T hT hn os ho
    have h0 : tn_ul T = [] := List.eq_nil_of_length_eq_zero (by omega)
    rw [h0, pm_nil] at ho
    rw [List.mem_singleton.mp ho]
    exact base T h0
  | succ n ih =>
    intro T hT hn os ho
    by_cases h0 : tn_ul T = []
    · rw [h0, pm_nil] at ho
      rw [List.mem_singleton.mp ho]
      exact base T h0
    · rw [pm_cons h0] at ho
      obtain ⟨a, ha, ho⟩ := List.mem_flatMap.mp ho
      obtain ⟨q, hq, rfl⟩ := List.mem_map.mp ho
      have hl := filter_ne_len ha
      rw [← ul_bh] at hq hl
      obtain ⟨a1, a2⟩ := ul_mem ha
      have h2 := ih (tn_bh T a) (tn_bh_ok hT a1) (by omega) q hq
      show (∀ l, l < tn_L T → f l = tn_cv (tn_bl (tn_bh T a) q) l) ↔ (∀ l, l < tn_L T → (tn_u T).testBit l = true → f l = tn_cv T l) ∧ (decide (nI (tn_wd T a) = f a) && fp f (tn_bh T a) q) = true
      rw [Bool.and_eq_true]
      refine Iff.trans h2 ?_
      constructor
      · rintro ⟨g1, g2⟩
        have ga := g1 a a1 (by show (tn_u (tn_put T a _)).testBit a = true; rw [u_put, decide_eq_true rfl, Bool.or_true])
        rw [cv_bh, if_pos rfl] at ga
        refine ⟨fun l hl hb => ?_, decide_eq_true ga.symm, g2⟩
        have gl := g1 l hl (by show (tn_u (tn_put T a _)).testBit l = true; rw [u_put, hb, Bool.true_or])
        rw [cv_bh, if_neg (fun e => by rw [e, a2] at hb; cases hb)] at gl
        exact gl
      · rintro ⟨g1, g2, g3⟩
        refine ⟨fun l hl hb => ?_, g3⟩
        rw [cv_bh]
        by_cases e : l = a
        · rw [if_pos e, e]; exact (of_decide_eq_true g2).symm
        · rw [if_neg e]
          have hb2 : (tn_u (tn_put T a (tn_wd T a))).testBit l = true := hb
          rw [u_put, decide_eq_false (fun z => e z.symm), Bool.or_false] at hb2
          exact g1 l hl hb2
theorem tn_am_ext {T T' : tn_T} (h1 : tn_L T' = tn_L T) (h2 : tn_k T' = tn_k T) (h3 : tn_m T' = tn_m T) (h4 : tn_b T' = tn_b T) (l hs : Nat) (f : Nat → Int32) : tn_am T' l hs f = tn_am T l hs f := by
  unfold tn_am tn_tk
  rw [h1, h2, h3, show tn_tkf T' l hs f = tn_tkf T l hs f by funext o; unfold tn_tkf; rw [h2, h4]]
theorem fo_fp {T0 : tn_T} (f : Nat → Int32) : ∀ (os : List Nat) (T : tn_T) (set : Nat), tn_ok T → tn_L T = tn_L T0 → tn_k T = tn_k T0 → tn_m T = tn_m T0 → tn_b T = tn_b T0 → tn_u T = tn_u T0 ||| set → (∀ o, o < tn_L T → (tn_u T).testBit o = true → f o = nI (tn_c T o)) → (∀ l ∈ os, l < tn_L T) → fo (co T0 (tn_u T0) 0 f) set os = fp f T os
  | [], _, _, _, _, _, _, _, _, _, _ => rfl
  | a :: os, T, set, hT, e1, e2, e3, e4, e5, hf, hos => by
    have ha := hos a List.mem_cons_self
    have e : co T0 (tn_u T0) 0 f set a = decide (nI (tn_wd T a) = f a) := by
      unfold co
      rw [Nat.zero_testBit, Bool.false_or, ← tn_am_ext e1 e2 e3 e4, ← e5, tn_am_wd hT hf]
    show (co T0 (tn_u T0) 0 f set a && fo (co T0 (tn_u T0) 0 f) (set ||| 2 ^ a) os) = (decide (nI (tn_wd T a) = f a) && fp f (tn_bh T a) os)
    rw [e]
    by_cases c : nI (tn_wd T a) = f a
    · rw [decide_eq_true c, Bool.true_and, Bool.true_and]
      refine fo_fp f os (tn_bh T a) (set ||| 2 ^ a) (tn_bh_ok hT ha) e1 e2 e3 e4 ?_ (fun o ho hb => ?_) (fun l hl => hos l (List.mem_cons_of_mem _ hl))
      · show tn_u T ||| 2 ^ a = _
        rw [e5, Nat.or_assoc]
      · show f o = nI (if o = a then tn_wd T a else tn_c T o)
        by_cases e6 : o = a
        · rw [if_pos e6, e6]; exact c.symm
        · rw [if_neg e6]
          have hb2 : (tn_u (tn_put T a (tn_wd T a))).testBit o = true := hb
          rw [u_put, decide_eq_false (fun z => e6 z.symm), Bool.or_false] at hb2
          exact hf o ho hb2
    · rw [decide_eq_false c, Bool.false_and, Bool.false_and]
/-- an order's end, as a sheet tells it -/
def ps (T : tn_T) (f : Nat → Int32) (os : List Nat) : Bool := decide (ff (fun l => !decide (f l = tn_cv (tn_bl T os) l)) (tn_L T) 0 = -1)
theorem ps_B {T : tn_T} (hT : tn_ok T) {f : Nat → Int32} (hB : ff (fun l => Nat.testBit (tn_u T) l && !decide (f l = tn_cv T l)) (tn_L T) 0 = -1) : ∀ os ∈ pm 7 (tn_ul T), ps T f os = fo (co T (tn_u T) 0 f) 0 os := by
  have hL := hT.1
  have hb := (ff_m1 (tn_L T) 0 (by omega)).mp hB
  have hb2 : ∀ l, l < tn_L T → (tn_u T).testBit l = true → f l = tn_cv T l := fun l hl hz => by
    have z := hb l (Nat.zero_le l) (by omega)
    rw [hz, Bool.true_and] at z
    by_cases c : f l = tn_cv T l
    · exact c
    · rw [decide_eq_false c] at z; cases z
  intro os ho
  have hlen : (tn_ul T).length ≤ 7 := by
    have h1 := List.length_filter_le (tn_un T) (List.range (tn_L T))
    rw [List.length_range] at h1
    exact Nat.le_trans h1 hL
  have hi := so_iff f 7 T hT hlen os ho
  have hos : ∀ l ∈ os, l < tn_L T := fun l hl => by
    have hnb := tn_nb_bits hT
    have h128 : 2 ^ tn_L T ≤ 128 := Nat.pow_le_pow_right (n := 2) (by omega) hL
    rw [← ul_bl hT, bl_7 hL hnb.1] at ho
    exact bit_lt hnb.1 ((pm_el 7 (tn_nb T) (by omega) (bl_len _) os ho).2 l hl).2
  rw [fo_fp f os T 0 hT rfl rfl rfl rfl (Nat.or_zero _).symm (fun o h1 h2 => by rw [hb2 o h1 h2, tn_cv_b h2]) hos]
  unfold ps
  cases hz : fp f T os with
  | true =>
    refine decide_eq_true ((ff_m1 (tn_L T) 0 (by omega)).mpr (fun l _ h2 => ?_))
    rw [decide_eq_true (hi.mpr ⟨hb2, hz⟩ l (by omega))]
    rfl
  | false =>
    refine decide_eq_false (fun e => ?_)
    have g := hi.mp (fun l hl => by
      have z := (ff_m1 (tn_L T) 0 (by omega)).mp e l (Nat.zero_le l) (by omega)
      by_cases c : f l = tn_cv (tn_bl T os) l
      · exact c
      · rw [decide_eq_false c] at z; cases z)
    rw [hz] at g
    cases g.2
theorem ps_N {T : tn_T} (hT : tn_ok T) {f : Nat → Int32} (hB : ¬ ff (fun l => Nat.testBit (tn_u T) l && !decide (f l = tn_cv T l)) (tn_L T) 0 = -1) : ∀ os ∈ pm 7 (tn_ul T), ps T f os = false := by
  have hL := hT.1
  intro os ho
  have hlen : (tn_ul T).length ≤ 7 := by
    have h1 := List.length_filter_le (tn_un T) (List.range (tn_L T))
    rw [List.length_range] at h1
    exact Nat.le_trans h1 hL
  have hi := so_iff f 7 T hT hlen os ho
  unfold ps
  refine decide_eq_false (fun e => hB ?_)
  have g := hi.mp (fun l hl => by
    have z := (ff_m1 (tn_L T) 0 (by omega)).mp e l (Nat.zero_le l) (by omega)
    by_cases c : f l = tn_cv (tn_bl T os) l
    · exact c
    · rw [decide_eq_false c] at z; cases z)
  refine (ff_m1 (tn_L T) 0 (by omega)).mpr (fun l _ h2 => ?_)
  cases hz : (tn_u T).testBit l with
  | false => rfl
  | true => rw [decide_eq_true (g.1 l (by omega) hz)]; rfl
theorem cp_none {p : List Nat → Bool} : ∀ {A : List (List Nat)}, (∀ a ∈ A, p a = false) → cp p A = 0 ∧ fs p A = none
  | [], _ => ⟨rfl, rfl⟩
  | a :: A, h => by
    obtain ⟨h1, h2⟩ := cp_none (A := A) (fun b hb => h b (List.mem_cons_of_mem _ hb))
    show (if p a = true then 1 else 0) + cp p A = 0 ∧ (if p a = true then some a else fs p A) = none
    rw [h a List.mem_cons_self, h1, h2]
    exact ⟨rfl, rfl⟩

set_option maxRecDepth 8000 in
set_option maxHeartbeats 2000000 in
theorem j_built {T : tn_T} {X : gx_T} {P : gt_T} {Im : gi_T} {S : gs_T} (hG : gg_ok (T, X, P, Im, S)) (q : Int32) : J mX8_built mX9_built [.int q] (T, X, P, Im, S) := by
  have hT : tn_ok T := hG.1
  have hX : gx_ok X := hG.2.1
  have hP : gt_ok P := hG.2.2.1
  have hI : gi_ok T (gx_n X) Im := hG.2.2.2.1
  have hS : gs_ok S := hG.2.2.2.2.1
  have hw : tn_w T < gx_n X := hG.2.2.2.2.2
  have hL := hT.1
  have hw6 := hT.2.1
  have hu := tn_u_lt hT
  have hX6 := hX.2.1
  have hP6 := hP.1
  have hub := hT.2.2.1
  have hwl := wv_lt (okR T 0) (tn_L T) (tn_u T) hL 0
  by_cases c1 : tn_in q 0 1 = true
  · obtain ⟨q, hq, rfl⟩ := tn_in_of (n := 1) (by decide) c1
    refine J.u (.int (if q = 0 then nI (wv (okR T 0) (tn_L T) (tn_u T) 0) else fvI (fv (okR T 0) (tn_L T) (tn_u T) 0))) (T, X, P, Im, S) hG (fun σ hC => ?_) (fun σ hM => ?_)
    · have h : TR σ 9 18 T := hC.1
      obtain ⟨σ', hO, hF, h25, hs1⟩ := c_countOrders_b hT (base := 0) (out := 0) (rest := tn_u T) (by decide) (by decide) hub (fun q => qm_rF σ 21 q) h (fun q hq => rfl)
      obtain ⟨e1, e2⟩ := wv_b hT h 0
      rw [e1] at hO
      refine ⟨σ', ?_, CG.aux hG hC (hs1.wid (by omega) (by omega)), hs1.wid (by omega) (by omega)⟩
      refine Ok.of (ls := [some (.ref 54), some (.int (nI q)), none]) (Nat.le_of_ble_eq_true rfl) rfl ?_
      refine ex_iload_n dX8_built_0 rfl rfl ?_
      refine ex_if_lt (q := 9) (q2 := 4) dX8_built_1 rfl rfl (fun hh => absurd hh (nI_pos (by omega))) (fun _ => ?_)
      refine ex_iload_n dX8_built_4 rfl rfl ?_
      refine ex_iconst (x := 1) dX8_built_5 rfl rfl ?_
      refine ex_icmp_le (q := 12) (q2 := 9) dX8_built_6 rfl rfl (fun _ => ?_) (fun hh => absurd (nI_le (a := q) (b := 1) (by omega) (by omega)) hh)
      refine ex_aload_n dX8_built_12 rfl rfl ?_
      refine ex_getR (b := 51) dX8_built_13 rfl qp_7_57 rfl rfl ?_
      refine ex_aload_n dX8_built_16 rfl rfl ?_
      refine ex_getR (b := 22) dX8_built_17 rfl qp_7_10 rfl rfl ?_
      refine ex_iconst (x := 0) dX8_built_20 rfl rfl ?_
      refine ex_aload_n dX8_built_21 rfl rfl ?_
      refine ex_getR (b := 22) dX8_built_22 rfl qp_7_10 rfl rfl ?_
      refine ex_getI (s := 12) (x := nI (tn_u T)) dX8_built_25 rfl qp_7_65 rfl rfl (h.2.2.2.1) ?_
      refine ex_aload_n dX8_built_28 rfl rfl ?_
      refine ex_getR (b := 22) dX8_built_29 rfl qp_7_10 rfl rfl ?_
      refine ex_getR (b := 26) dX8_built_32 rfl qp_7_142 rfl rfl ?_
      refine ex_iconst (x := 0) dX8_built_35 rfl rfl ?_
      refine ex_callV (a := 51) (rest := []) dX8_built_36 rfl qp_7_233 rfl rfl rfl rfl rfl (Nat.le_of_ble_eq_true rfl) (hO) (Nat.le_of_ble_eq_true rfl) ?_
      show Ex qm_lay _ mX8_built 39 [some (.ref 54), some (.int (nI q)), none] [.int (nI (wv (okR T 0) (tn_L T) (tn_u T) 0))] σ' _ _
      refine ex_istore_n (ls' := [some (.ref 54), some (.int (nI q)), some (.int (nI (wv (okR T 0) (tn_L T) (tn_u T) 0)))]) dX8_built_39 rfl (Nat.le_of_ble_eq_true rfl) rfl rfl ?_
      refine ex_iload_n dX8_built_40 rfl rfl ?_
      refine ex_if_ne (q := 48) (q2 := 44) dX8_built_41 rfl rfl (fun h41 => ?_) (fun h41 => ?_)
      · have hq0 : ¬ q = 0 := fun z => h41 (congrArg nI z)
        refine ex_aload_n dX8_built_48 rfl rfl ?_
        refine ex_getR (b := 51) dX8_built_49 rfl qp_7_57 rfl rfl ?_
        refine ex_callV (a := 51) (rest := []) dX8_built_52 rfl qp_7_237 rfl rfl rfl rfl rfl (Nat.le_of_ble_eq_true rfl) ((by have z := c_firstOrder hL hub hF h25; rw [e2] at z; exact z)) (Nat.le_of_ble_eq_true rfl) ?_
        show Ex qm_lay _ mX8_built 55 [some (.ref 54), some (.int (nI q)), some (.int (nI (wv (okR T 0) (tn_L T) (tn_u T) 0)))] [.int (fvI (fv (okR T 0) (tn_L T) (tn_u T) 0))] σ' _ _
        exact ex_iret dX8_built_55 rfl (by first | rw [if_neg hq0] | rw [if_pos hq0]) rfl
      · have hq0 : q = 0 := (nI_eq (b := 0) (by omega) (by decide)).mp (Decidable.not_not.mp h41)
        refine ex_iload_n dX8_built_44 rfl rfl ?_
        refine ex_goto (q := 55) dX8_built_45 rfl ?_
        exact ex_iret dX8_built_55 rfl (by first | rw [if_neg hq0] | rw [if_pos hq0]) rfl
    · have h : MR σ T := hM.1
      obtain ⟨σ', hO, hR, h45, hs1⟩ := k_fittingRows hT h hov_n
      refine ⟨σ', ?_, MG.thinkL (G := (T, X, P, Im, S)) hM hR ⟨fun s hs => hs1.1 s (by omega), fun r hr hr2 k => hs1.2 r (by omega) (by omega) k⟩, hs1.sm (by omega) (by omega) (by omega)⟩
      refine Ok.of (ls := [some (.ref 55), some (.int (nI q)), none]) (Nat.le_of_ble_eq_true rfl) rfl ?_
      refine ex_iload_n dX9_built_0 rfl rfl ?_
      refine ex_iconst (x := 0) dX9_built_1 rfl rfl ?_
      refine ex_iconst (x := 1) dX9_built_2 rfl rfl ?_
      refine ex_callS (rest := []) dX9_built_3 rfl qp_8_81 rfl rfl rfl (Nat.le_of_ble_eq_true rfl) (k_in _ _ _ _) (Nat.le_of_ble_eq_true rfl) ?_
      show Ex qm_lay _ mX9_built 6 [some (.ref 55), some (.int (nI q)), none] [.int (b2i (tn_in (nI q) 0 1))] σ _ _
      refine ex_if_ne (q := 12) (q2 := 9) dX9_built_6 rfl rfl (fun _ => ?_) (fun hh => absurd (b2i_n0.mpr (c1)) hh)
      refine ex_aload_n dX9_built_12 rfl rfl ?_
      refine ex_iconst (x := (-1)) dX9_built_13 rfl rfl ?_
      refine ex_callV (a := 55) (rest := []) dX9_built_14 rfl qp_8_284 rfl rfl rfl rfl rfl (Nat.le_of_ble_eq_true rfl) (hO) (Nat.le_of_ble_eq_true rfl) ?_
      show Ex qm_lay _ mX9_built 17 [some (.ref 55), some (.int (nI q)), none] [.int (nI (wv (okR T 0) (tn_L T) (tn_u T) 0))] σ' _ _
      refine ex_istore_n (ls' := [some (.ref 55), some (.int (nI q)), some (.int (nI (wv (okR T 0) (tn_L T) (tn_u T) 0)))]) dX9_built_17 rfl (Nat.le_of_ble_eq_true rfl) rfl rfl ?_
      refine ex_iload_n dX9_built_18 rfl rfl ?_
      refine ex_if_ne (q := 26) (q2 := 22) dX9_built_19 rfl rfl (fun h19 => ?_) (fun h19 => ?_)
      · have hq0 : ¬ q = 0 := fun z => h19 (congrArg nI z)
        refine ex_aload_n dX9_built_26 rfl rfl ?_
        refine ex_getI (s := 45) (x := fvI (fv (okR T 0) (tn_L T) (tn_u T) 0)) dX9_built_27 rfl qp_8_278 rfl rfl (h45) ?_
        exact ex_iret dX9_built_30 rfl (by first | rw [if_neg hq0] | rw [if_pos hq0]) rfl
      · have hq0 : q = 0 := (nI_eq (b := 0) (by omega) (by decide)).mp (Decidable.not_not.mp h19)
        refine ex_iload_n dX9_built_22 rfl rfl ?_
        refine ex_goto (q := 30) dX9_built_23 rfl ?_
        exact ex_iret dX9_built_30 rfl (by first | rw [if_neg hq0] | rw [if_pos hq0]) rfl
  · refine J.q hG (.int (-2)) (fun σ hC => ?_) (fun σ hM => ?_)
    · have h : TR σ 9 18 T := hC.1
      refine Ok.of (ls := [some (.ref 54), some (.int q), none]) (Nat.le_of_ble_eq_true rfl) rfl ?_
      refine ex_iload_n dX8_built_0 rfl rfl ?_
      refine ex_if_lt (q := 9) (q2 := 4) dX8_built_1 rfl rfl (fun h1 => ?_) (fun h1 => ?_)
      · refine ex_bipush (x := (-2)) dX8_built_9 rfl rfl ?_
        exact ex_iret dX8_built_11 rfl rfl rfl
      · refine ex_iload_n dX8_built_4 rfl rfl ?_
        refine ex_iconst (x := 1) dX8_built_5 rfl rfl ?_
        refine ex_icmp_le (q := 12) (q2 := 9) dX8_built_6 rfl rfl (fun h6 => ?_) (fun h6 => ?_)
        · exact absurd (decide_eq_true ⟨Int32.not_lt.mp h1, h6⟩) c1
        · refine ex_bipush (x := (-2)) dX8_built_9 rfl rfl ?_
          exact ex_iret dX8_built_11 rfl rfl rfl
    · have h : MR σ T := hM.1
      refine Ok.of (ls := [some (.ref 55), some (.int q), none]) (Nat.le_of_ble_eq_true rfl) rfl ?_
      refine ex_iload_n dX9_built_0 rfl rfl ?_
      refine ex_iconst (x := 0) dX9_built_1 rfl rfl ?_
      refine ex_iconst (x := 1) dX9_built_2 rfl rfl ?_
      refine ex_callS (rest := []) dX9_built_3 rfl qp_8_81 rfl rfl rfl (Nat.le_of_ble_eq_true rfl) (k_in _ _ _ _) (Nat.le_of_ble_eq_true rfl) ?_
      show Ex qm_lay _ mX9_built 6 [some (.ref 55), some (.int q), none] [.int (b2i (tn_in q 0 1))] σ _ _
      refine ex_if_ne (q := 12) (q2 := 9) dX9_built_6 rfl rfl (fun hh => absurd hh (fun zz => zz (b2i_0.mpr (by simpa using c1)))) (fun _ => ?_)
      refine ex_bipush (x := (-2)) dX9_built_9 rfl rfl ?_
      exact ex_iret dX9_built_11 rfl rfl rfl

set_option maxRecDepth 8000 in
set_option maxHeartbeats 2000000 in
theorem l_blameC {T : tn_T} {X : gx_T} {P : gt_T} {Im : gi_T} {S : gs_T} (hG : gg_ok (T, X, P, Im, S)) : ∀ (r k acc : Nat) (σ : qm_St), k + r = tn_L T → CG σ (T, X, P, Im, S) → ∃ σ', Ex qm_lay 100 mX8_blame 36 [some (.ref 54), some (.int (nI acc)), some (.int (nI k))] [] σ (some (.int (nI (acc ||| nl (hB T) r k)))) σ' ∧ CG σ' (T, X, P, Im, S) ∧ sm σ σ' 0 27 0 42 := by
  intro r
  induction r with
  | zero =>
    intro k acc σ hk hC
    have hT : tn_ok T := hG.1
    have hX : gx_ok X := hG.2.1
    have hP : gt_ok P := hG.2.2.1
    have hI : gi_ok T (gx_n X) Im := hG.2.2.2.1
    have hS : gs_ok S := hG.2.2.2.2.1
    have hw : tn_w T < gx_n X := hG.2.2.2.2.2
    have hL := hT.1
    have hw6 := hT.2.1
    have hu := tn_u_lt hT
    have hX6 := hX.2.1
    have hP6 := hP.1
    have h : TR σ 9 18 T := hC.1
    refine ⟨σ, ?_, hC, sm.rf _ _ _ _ _⟩
    rw [show acc ||| nl (hB T) 0 k = acc from Nat.or_zero acc]
    refine ex_iload_n dX8_blame_36 rfl rfl ?_
    refine ex_aload_n dX8_blame_37 rfl rfl ?_
    refine ex_getR (b := 22) dX8_blame_38 rfl qp_7_10 rfl rfl ?_
    refine ex_getI (s := 9) (x := nI (tn_L T)) dX8_blame_41 rfl qp_7_61 rfl rfl (h.1) ?_
    refine ex_icmp_ge (q := 102) (q2 := 47) dX8_blame_44 rfl rfl (fun _ => ?_) (fun hh => absurd (nI_le (a := (tn_L T)) (b := k) (by omega) (by omega)) hh)
    refine ex_iload_n dX8_blame_102 rfl rfl ?_
    exact ex_iret dX8_blame_103 rfl rfl rfl
  | succ r ih =>
    intro k acc σ hk hC
    have hT : tn_ok T := hG.1
    have hX : gx_ok X := hG.2.1
    have hP : gt_ok P := hG.2.2.1
    have hI : gi_ok T (gx_n X) Im := hG.2.2.2.1
    have hS : gs_ok S := hG.2.2.2.2.1
    have hw : tn_w T < gx_n X := hG.2.2.2.2.2
    have hL := hT.1
    have hw6 := hT.2.1
    have hu := tn_u_lt hT
    have hX6 := hX.2.1
    have hP6 := hP.1
    have h : TR σ 9 18 T := hC.1
    have hub := hT.2.2.1
    have e0 : nl (hB T) (r + 1) k = (if hB T k = true then 2 ^ k else 0) ||| nl (hB T) r (k + 1) := rfl
    rw [e0]
    by_cases c1 : (tn_u T).testBit k = true
    · obtain ⟨σ', hO, hF, h25, hs1⟩ := c_countOrders_b hT (base := 0) (out := 2 ^ k) (rest := tn_u T) (by decide) (Nat.pow_lt_pow_right (n := 7) (by omega) (by omega)) hub (fun q => qm_rF σ 21 q) h (fun q hq => rfl)
      obtain ⟨e1, e2⟩ := wv_b hT h (2 ^ k)
      rw [e1] at hO
      have hwl := wv_lt (okR T (2 ^ k)) (tn_L T) (tn_u T) hL 0
      have hC2 := CG.aux hG hC (hs1.wid (by omega) (by omega))
      by_cases c2 : 0 < wv (okR T (2 ^ k)) (tn_L T) (tn_u T) 0
      · have e3 : hB T k = true := by unfold hB; rw [c1, decide_eq_true c2]; rfl
        obtain ⟨σ2, hE, hC3, hs2⟩ := ih (k + 1) (acc ||| 2 ^ k) σ' (by omega) hC2
        refine ⟨σ2, ?_, hC3, (hs1.wid (by omega) (by omega)).tr hs2⟩
        rw [e3, if_pos rfl, ← Nat.or_assoc]
        refine ex_iload_n dX8_blame_36 rfl rfl ?_
        refine ex_aload_n dX8_blame_37 rfl rfl ?_
        refine ex_getR (b := 22) dX8_blame_38 rfl qp_7_10 rfl rfl ?_
        refine ex_getI (s := 9) (x := nI (tn_L T)) dX8_blame_41 rfl qp_7_61 rfl rfl (h.1) ?_
        refine ex_icmp_ge (q := 102) (q2 := 47) dX8_blame_44 rfl rfl (fun hh => absurd hh (nI_ge (a := k) (b := (tn_L T)) (by omega) (by omega))) (fun _ => ?_)
        refine ex_aload_n dX8_blame_47 rfl rfl ?_
        refine ex_getR (b := 22) dX8_blame_48 rfl qp_7_10 rfl rfl ?_
        refine ex_iload_n dX8_blame_51 rfl rfl ?_
        refine ex_callV (a := 22) (rest := []) dX8_blame_52 rfl qp_7_127 rfl rfl rfl rfl rfl (Nat.le_of_ble_eq_true rfl) (c_isBuilt_0n hT h (by omega)) (Nat.le_of_ble_eq_true rfl) ?_
        show Ex qm_lay _ mX8_blame 55 [some (.ref 54), some (.int (nI acc)), some (.int (nI k))] [.int (b2i (Nat.testBit (tn_u T) k))] σ _ _
        refine ex_if_eq (q := 96) (q2 := 58) dX8_blame_55 rfl rfl (fun hh => absurd hh (b2i_n0.mpr (c1))) (fun _ => ?_)
        refine ex_aload_n dX8_blame_58 rfl rfl ?_
        refine ex_getR (b := 51) dX8_blame_59 rfl qp_7_57 rfl rfl ?_
        refine ex_aload_n dX8_blame_62 rfl rfl ?_
        refine ex_getR (b := 22) dX8_blame_63 rfl qp_7_10 rfl rfl ?_
        refine ex_iconst (x := 0) dX8_blame_66 rfl rfl ?_
        refine ex_aload_n dX8_blame_67 rfl rfl ?_
        refine ex_getR (b := 22) dX8_blame_68 rfl qp_7_10 rfl rfl ?_
        refine ex_getI (s := 12) (x := nI (tn_u T)) dX8_blame_71 rfl qp_7_65 rfl rfl (h.2.2.2.1) ?_
        refine ex_aload_n dX8_blame_74 rfl rfl ?_
        refine ex_getR (b := 22) dX8_blame_75 rfl qp_7_10 rfl rfl ?_
        refine ex_getR (b := 26) dX8_blame_78 rfl qp_7_142 rfl rfl ?_
        refine ex_iconst (x := 1) dX8_blame_81 rfl rfl ?_
        refine ex_iload_n dX8_blame_82 rfl rfl ?_
        refine ex_ishl (z := nI (2 ^ k)) dX8_blame_83 rfl (nI_1shl (by omega)) ?_
        refine ex_callV (a := 51) (rest := []) dX8_blame_84 rfl qp_7_233 rfl rfl rfl rfl rfl (Nat.le_of_ble_eq_true rfl) (hO) (Nat.le_of_ble_eq_true rfl) ?_
        show Ex qm_lay _ mX8_blame 87 [some (.ref 54), some (.int (nI acc)), some (.int (nI k))] [.int (nI (wv (okR T (2 ^ k)) (tn_L T) (tn_u T) 0))] σ' _ _
        refine ex_if_le (q := 96) (q2 := 90) dX8_blame_87 rfl rfl (fun hh => absurd hh (fun zz => absurd ((nI_leI (b := 0) (by omega) (by decide)).mp zz) (by omega))) (fun _ => ?_)
        refine ex_iload_n dX8_blame_90 rfl rfl ?_
        refine ex_iconst (x := 1) dX8_blame_91 rfl rfl ?_
        refine ex_iload_n dX8_blame_92 rfl rfl ?_
        refine ex_ishl (z := nI (2 ^ k)) dX8_blame_93 rfl (nI_1shl (by omega)) ?_
        refine ex_ior (z := nI (acc ||| (2 ^ k))) dX8_blame_94 rfl (nI_or _ _) ?_
        refine ex_istore_n (ls' := [some (.ref 54), some (.int (nI (acc ||| (2 ^ k)))), some (.int (nI k))]) dX8_blame_95 rfl (Nat.le_of_ble_eq_true rfl) rfl rfl ?_
        refine ex_iinc (y := nI (k + 1)) (ls' := [some (.ref 54), some (.int (nI (acc ||| (2 ^ k)))), some (.int (nI (k + 1)))]) dX8_blame_96 rfl rfl rfl (nI_add k 1) rfl ?_
        refine ex_goto (q := 36) dX8_blame_99 rfl ?_
        exact hE
      · have e3 : hB T k = false := by unfold hB; rw [c1, decide_eq_false c2]; rfl
        obtain ⟨σ2, hE, hC3, hs2⟩ := ih (k + 1) acc σ' (by omega) hC2
        refine ⟨σ2, ?_, hC3, (hs1.wid (by omega) (by omega)).tr hs2⟩
        rw [e3, if_neg (by decide), Nat.zero_or]
        refine ex_iload_n dX8_blame_36 rfl rfl ?_
        refine ex_aload_n dX8_blame_37 rfl rfl ?_
        refine ex_getR (b := 22) dX8_blame_38 rfl qp_7_10 rfl rfl ?_
        refine ex_getI (s := 9) (x := nI (tn_L T)) dX8_blame_41 rfl qp_7_61 rfl rfl (h.1) ?_
        refine ex_icmp_ge (q := 102) (q2 := 47) dX8_blame_44 rfl rfl (fun hh => absurd hh (nI_ge (a := k) (b := (tn_L T)) (by omega) (by omega))) (fun _ => ?_)
        refine ex_aload_n dX8_blame_47 rfl rfl ?_
        refine ex_getR (b := 22) dX8_blame_48 rfl qp_7_10 rfl rfl ?_
        refine ex_iload_n dX8_blame_51 rfl rfl ?_
        refine ex_callV (a := 22) (rest := []) dX8_blame_52 rfl qp_7_127 rfl rfl rfl rfl rfl (Nat.le_of_ble_eq_true rfl) (c_isBuilt_0n hT h (by omega)) (Nat.le_of_ble_eq_true rfl) ?_
        show Ex qm_lay _ mX8_blame 55 [some (.ref 54), some (.int (nI acc)), some (.int (nI k))] [.int (b2i (Nat.testBit (tn_u T) k))] σ _ _
        refine ex_if_eq (q := 96) (q2 := 58) dX8_blame_55 rfl rfl (fun hh => absurd hh (b2i_n0.mpr (c1))) (fun _ => ?_)
        refine ex_aload_n dX8_blame_58 rfl rfl ?_
        refine ex_getR (b := 51) dX8_blame_59 rfl qp_7_57 rfl rfl ?_
        refine ex_aload_n dX8_blame_62 rfl rfl ?_
        refine ex_getR (b := 22) dX8_blame_63 rfl qp_7_10 rfl rfl ?_
        refine ex_iconst (x := 0) dX8_blame_66 rfl rfl ?_
        refine ex_aload_n dX8_blame_67 rfl rfl ?_
        refine ex_getR (b := 22) dX8_blame_68 rfl qp_7_10 rfl rfl ?_
        refine ex_getI (s := 12) (x := nI (tn_u T)) dX8_blame_71 rfl qp_7_65 rfl rfl (h.2.2.2.1) ?_
        refine ex_aload_n dX8_blame_74 rfl rfl ?_
        refine ex_getR (b := 22) dX8_blame_75 rfl qp_7_10 rfl rfl ?_
        refine ex_getR (b := 26) dX8_blame_78 rfl qp_7_142 rfl rfl ?_
        refine ex_iconst (x := 1) dX8_blame_81 rfl rfl ?_
        refine ex_iload_n dX8_blame_82 rfl rfl ?_
        refine ex_ishl (z := nI (2 ^ k)) dX8_blame_83 rfl (nI_1shl (by omega)) ?_
        refine ex_callV (a := 51) (rest := []) dX8_blame_84 rfl qp_7_233 rfl rfl rfl rfl rfl (Nat.le_of_ble_eq_true rfl) (hO) (Nat.le_of_ble_eq_true rfl) ?_
        show Ex qm_lay _ mX8_blame 87 [some (.ref 54), some (.int (nI acc)), some (.int (nI k))] [.int (nI (wv (okR T (2 ^ k)) (tn_L T) (tn_u T) 0))] σ' _ _
        refine ex_if_le (q := 96) (q2 := 90) dX8_blame_87 rfl rfl (fun _ => ?_) (fun hh => absurd (nI_le (b := 0) (by omega) (by decide)) hh)
        refine ex_iinc (y := nI (k + 1)) (ls' := [some (.ref 54), some (.int (nI acc)), some (.int (nI (k + 1)))]) dX8_blame_96 rfl rfl rfl (nI_add k 1) rfl ?_
        refine ex_goto (q := 36) dX8_blame_99 rfl ?_
        exact hE
    · have e3 : hB T k = false := by unfold hB; rw [show (tn_u T).testBit k = false by simpa using c1]; rfl
      obtain ⟨σ2, hE, hC3, hs2⟩ := ih (k + 1) acc σ (by omega) hC
      refine ⟨σ2, ?_, hC3, hs2⟩
      rw [e3, if_neg (by decide), Nat.zero_or]
      refine ex_iload_n dX8_blame_36 rfl rfl ?_
      refine ex_aload_n dX8_blame_37 rfl rfl ?_
      refine ex_getR (b := 22) dX8_blame_38 rfl qp_7_10 rfl rfl ?_
      refine ex_getI (s := 9) (x := nI (tn_L T)) dX8_blame_41 rfl qp_7_61 rfl rfl (h.1) ?_
      refine ex_icmp_ge (q := 102) (q2 := 47) dX8_blame_44 rfl rfl (fun hh => absurd hh (nI_ge (a := k) (b := (tn_L T)) (by omega) (by omega))) (fun _ => ?_)
      refine ex_aload_n dX8_blame_47 rfl rfl ?_
      refine ex_getR (b := 22) dX8_blame_48 rfl qp_7_10 rfl rfl ?_
      refine ex_iload_n dX8_blame_51 rfl rfl ?_
      refine ex_callV (a := 22) (rest := []) dX8_blame_52 rfl qp_7_127 rfl rfl rfl rfl rfl (Nat.le_of_ble_eq_true rfl) (c_isBuilt_0n hT h (by omega)) (Nat.le_of_ble_eq_true rfl) ?_
      show Ex qm_lay _ mX8_blame 55 [some (.ref 54), some (.int (nI acc)), some (.int (nI k))] [.int (b2i (Nat.testBit (tn_u T) k))] σ _ _
      refine ex_if_eq (q := 96) (q2 := 58) dX8_blame_55 rfl rfl (fun _ => ?_) (fun hh => absurd (b2i_0.mpr (by simpa using c1)) hh)
      refine ex_iinc (y := nI (k + 1)) (ls' := [some (.ref 54), some (.int (nI acc)), some (.int (nI (k + 1)))]) dX8_blame_96 rfl rfl rfl (nI_add k 1) rfl ?_
      refine ex_goto (q := 36) dX8_blame_99 rfl ?_
      exact hE

set_option maxRecDepth 8000 in
set_option maxHeartbeats 2000000 in
theorem l_blameM {T : tn_T} {X : gx_T} {P : gt_T} {Im : gi_T} {S : gs_T} (hG : gg_ok (T, X, P, Im, S)) : ∀ (r k acc : Nat) (σ : qm_St), k + r = tn_L T → MG σ (T, X, P, Im, S) → ∃ σ', Ex qm_lay 100 mX9_blame 18 [some (.ref 55), some (.int (nI acc)), some (.int 1), some (.int (nI k))] [] σ (some (.int (nI (acc ||| nl (hB T) r k)))) σ' ∧ MG σ' (T, X, P, Im, S) ∧ sm σ σ' 27 46 42 62 := by
  intro r
  induction r with
  | zero =>
    intro k acc σ hk hM
    have hT : tn_ok T := hG.1
    have hX : gx_ok X := hG.2.1
    have hP : gt_ok P := hG.2.2.1
    have hI : gi_ok T (gx_n X) Im := hG.2.2.2.1
    have hS : gs_ok S := hG.2.2.2.2.1
    have hw : tn_w T < gx_n X := hG.2.2.2.2.2
    have hL := hT.1
    have hw6 := hT.2.1
    have hu := tn_u_lt hT
    have hX6 := hX.2.1
    have hP6 := hP.1
    have h : MR σ T := hM.1
    refine ⟨σ, ?_, hM, sm.rf _ _ _ _ _⟩
    rw [show acc ||| nl (hB T) 0 k = acc from Nat.or_zero acc]
    refine ex_iload_n dX9_blame_18 rfl rfl ?_
    refine ex_aload_n dX9_blame_19 rfl rfl ?_
    refine ex_getI (s := 27) (x := nI (tn_L T)) dX9_blame_20 rfl qp_8_78 rfl rfl (h.1.1) ?_
    refine ex_icmp_ge (q := 62) (q2 := 26) dX9_blame_23 rfl rfl (fun _ => ?_) (fun hh => absurd (nI_le (a := (tn_L T)) (b := k) (by omega) (by omega)) hh)
    refine ex_iload_n dX9_blame_62 rfl rfl ?_
    exact ex_iret dX9_blame_63 rfl rfl rfl
  | succ r ih =>
    intro k acc σ hk hM
    have hT : tn_ok T := hG.1
    have hX : gx_ok X := hG.2.1
    have hP : gt_ok P := hG.2.2.1
    have hI : gi_ok T (gx_n X) Im := hG.2.2.2.1
    have hS : gs_ok S := hG.2.2.2.2.1
    have hw : tn_w T < gx_n X := hG.2.2.2.2.2
    have hL := hT.1
    have hw6 := hT.2.1
    have hu := tn_u_lt hT
    have hX6 := hX.2.1
    have hP6 := hP.1
    have h : MR σ T := hM.1
    have hub := hT.2.2.1
    have e0 : nl (hB T) (r + 1) k = (if hB T k = true then 2 ^ k else 0) ||| nl (hB T) r (k + 1) := rfl
    rw [e0]
    by_cases c1 : (tn_u T).testBit k = true
    · obtain ⟨σ', hO, hR, h45, hs1⟩ := k_fittingRows hT h (hov_k (show k < 7 by omega))
      have hwl := wv_lt (okR T (2 ^ k)) (tn_L T) (tn_u T) hL 0
      have hM2 := MG.thinkL (G := (T, X, P, Im, S)) hM hR ⟨fun s hs => hs1.1 s (by omega), fun r hr hr2 k => hs1.2 r (by omega) (by omega) k⟩
      by_cases c2 : 0 < wv (okR T (2 ^ k)) (tn_L T) (tn_u T) 0
      · have e3 : hB T k = true := by unfold hB; rw [c1, decide_eq_true c2]; rfl
        obtain ⟨σ2, hE, hM3, hs2⟩ := ih (k + 1) (acc ||| 2 ^ k) σ' (by omega) hM2
        refine ⟨σ2, ?_, hM3, (hs1.sm (by omega) (by omega) (by omega)).tr hs2⟩
        rw [e3, if_pos rfl, ← Nat.or_assoc]
        refine ex_iload_n dX9_blame_18 rfl rfl ?_
        refine ex_aload_n dX9_blame_19 rfl rfl ?_
        refine ex_getI (s := 27) (x := nI (tn_L T)) dX9_blame_20 rfl qp_8_78 rfl rfl (h.1.1) ?_
        refine ex_icmp_ge (q := 62) (q2 := 26) dX9_blame_23 rfl rfl (fun hh => absurd hh (nI_ge (a := k) (b := (tn_L T)) (by omega) (by omega))) (fun _ => ?_)
        refine ex_iload_n dX9_blame_26 rfl rfl ?_
        refine ex_if_eq (q := 62) (q2 := 30) dX9_blame_27 rfl rfl (fun hh => absurd hh (by decide)) (fun _ => ?_)
        refine ex_iload_n dX9_blame_30 rfl rfl ?_
        refine ex_aload_n dX9_blame_31 rfl rfl ?_
        refine ex_iload_n dX9_blame_32 rfl rfl ?_
        refine ex_callV (a := 55) (rest := [.int (nI acc)]) dX9_blame_33 rfl qp_8_89 rfl rfl rfl rfl rfl (Nat.le_of_ble_eq_true rfl) (k_isBuilt hT h (by omega)) (Nat.le_of_ble_eq_true rfl) ?_
        show Ex qm_lay _ mX9_blame 36 [some (.ref 55), some (.int (nI acc)), some (.int 1), some (.int (nI k))] [.int (b2i (Nat.testBit (tn_u T) k)), .int (nI acc)] σ _ _
        refine ex_if_eq (q := 53) (q2 := 39) dX9_blame_36 rfl rfl (fun hh => absurd hh (b2i_n0.mpr (c1))) (fun _ => ?_)
        refine ex_aload_n dX9_blame_39 rfl rfl ?_
        refine ex_iload_n dX9_blame_40 rfl rfl ?_
        refine ex_callV (a := 55) (rest := [.int (nI acc)]) dX9_blame_41 rfl qp_8_284 rfl rfl rfl rfl rfl (Nat.le_of_ble_eq_true rfl) (hO) (Nat.le_of_ble_eq_true rfl) ?_
        show Ex qm_lay _ mX9_blame 44 [some (.ref 55), some (.int (nI acc)), some (.int 1), some (.int (nI k))] [.int (nI (wv (okR T (2 ^ k)) (tn_L T) (tn_u T) 0)), .int (nI acc)] σ' _ _
        refine ex_if_le (q := 53) (q2 := 47) dX9_blame_44 rfl rfl (fun hh => absurd hh (fun zz => absurd ((nI_leI (b := 0) (by omega) (by decide)).mp zz) (by omega))) (fun _ => ?_)
        refine ex_iconst (x := 1) dX9_blame_47 rfl rfl ?_
        refine ex_iload_n dX9_blame_48 rfl rfl ?_
        refine ex_ishl (z := nI (2 ^ k)) dX9_blame_49 rfl (nI_1shl (by omega)) ?_
        refine ex_goto (q := 54) dX9_blame_50 rfl ?_
        refine ex_ior (z := nI (acc ||| (2 ^ k))) dX9_blame_54 rfl (nI_or _ _) ?_
        refine ex_istore_n (ls' := [some (.ref 55), some (.int (nI (acc ||| (2 ^ k)))), some (.int 1), some (.int (nI k))]) dX9_blame_55 rfl (Nat.le_of_ble_eq_true rfl) rfl rfl ?_
        refine ex_iinc (y := nI (k + 1)) (ls' := [some (.ref 55), some (.int (nI (acc ||| (2 ^ k)))), some (.int 1), some (.int (nI (k + 1)))]) dX9_blame_56 rfl rfl rfl (nI_add k 1) rfl ?_
        refine ex_goto (q := 18) dX9_blame_59 rfl ?_
        exact hE
      · have e3 : hB T k = false := by unfold hB; rw [c1, decide_eq_false c2]; rfl
        obtain ⟨σ2, hE, hM3, hs2⟩ := ih (k + 1) (acc ||| 0) σ' (by omega) hM2
        refine ⟨σ2, ?_, hM3, (hs1.sm (by omega) (by omega) (by omega)).tr hs2⟩
        rw [e3, if_neg (by decide), Nat.zero_or]
        rw [Nat.or_zero] at hE
        refine ex_iload_n dX9_blame_18 rfl rfl ?_
        refine ex_aload_n dX9_blame_19 rfl rfl ?_
        refine ex_getI (s := 27) (x := nI (tn_L T)) dX9_blame_20 rfl qp_8_78 rfl rfl (h.1.1) ?_
        refine ex_icmp_ge (q := 62) (q2 := 26) dX9_blame_23 rfl rfl (fun hh => absurd hh (nI_ge (a := k) (b := (tn_L T)) (by omega) (by omega))) (fun _ => ?_)
        refine ex_iload_n dX9_blame_26 rfl rfl ?_
        refine ex_if_eq (q := 62) (q2 := 30) dX9_blame_27 rfl rfl (fun hh => absurd hh (by decide)) (fun _ => ?_)
        refine ex_iload_n dX9_blame_30 rfl rfl ?_
        refine ex_aload_n dX9_blame_31 rfl rfl ?_
        refine ex_iload_n dX9_blame_32 rfl rfl ?_
        refine ex_callV (a := 55) (rest := [.int (nI acc)]) dX9_blame_33 rfl qp_8_89 rfl rfl rfl rfl rfl (Nat.le_of_ble_eq_true rfl) (k_isBuilt hT h (by omega)) (Nat.le_of_ble_eq_true rfl) ?_
        show Ex qm_lay _ mX9_blame 36 [some (.ref 55), some (.int (nI acc)), some (.int 1), some (.int (nI k))] [.int (b2i (Nat.testBit (tn_u T) k)), .int (nI acc)] σ _ _
        refine ex_if_eq (q := 53) (q2 := 39) dX9_blame_36 rfl rfl (fun hh => absurd hh (b2i_n0.mpr (c1))) (fun _ => ?_)
        refine ex_aload_n dX9_blame_39 rfl rfl ?_
        refine ex_iload_n dX9_blame_40 rfl rfl ?_
        refine ex_callV (a := 55) (rest := [.int (nI acc)]) dX9_blame_41 rfl qp_8_284 rfl rfl rfl rfl rfl (Nat.le_of_ble_eq_true rfl) (hO) (Nat.le_of_ble_eq_true rfl) ?_
        show Ex qm_lay _ mX9_blame 44 [some (.ref 55), some (.int (nI acc)), some (.int 1), some (.int (nI k))] [.int (nI (wv (okR T (2 ^ k)) (tn_L T) (tn_u T) 0)), .int (nI acc)] σ' _ _
        refine ex_if_le (q := 53) (q2 := 47) dX9_blame_44 rfl rfl (fun _ => ?_) (fun hh => absurd (nI_le (b := 0) (by omega) (by decide)) hh)
        refine ex_iconst (x := 0) dX9_blame_53 rfl rfl ?_
        refine ex_ior (z := nI acc) dX9_blame_54 rfl (Int32.or_zero) ?_
        refine ex_istore_n (ls' := [some (.ref 55), some (.int (nI acc)), some (.int 1), some (.int (nI k))]) dX9_blame_55 rfl (Nat.le_of_ble_eq_true rfl) rfl rfl ?_
        refine ex_iinc (y := nI (k + 1)) (ls' := [some (.ref 55), some (.int (nI acc)), some (.int 1), some (.int (nI (k + 1)))]) dX9_blame_56 rfl rfl rfl (nI_add k 1) rfl ?_
        refine ex_goto (q := 18) dX9_blame_59 rfl ?_
        exact hE
    · have e3 : hB T k = false := by unfold hB; rw [show (tn_u T).testBit k = false by simpa using c1]; rfl
      obtain ⟨σ2, hE, hM3, hs2⟩ := ih (k + 1) acc σ (by omega) hM
      refine ⟨σ2, ?_, hM3, hs2⟩
      rw [e3, if_neg (by decide), Nat.zero_or]
      refine ex_iload_n dX9_blame_18 rfl rfl ?_
      refine ex_aload_n dX9_blame_19 rfl rfl ?_
      refine ex_getI (s := 27) (x := nI (tn_L T)) dX9_blame_20 rfl qp_8_78 rfl rfl (h.1.1) ?_
      refine ex_icmp_ge (q := 62) (q2 := 26) dX9_blame_23 rfl rfl (fun hh => absurd hh (nI_ge (a := k) (b := (tn_L T)) (by omega) (by omega))) (fun _ => ?_)
      refine ex_iload_n dX9_blame_26 rfl rfl ?_
      refine ex_if_eq (q := 62) (q2 := 30) dX9_blame_27 rfl rfl (fun hh => absurd hh (by decide)) (fun _ => ?_)
      refine ex_iload_n dX9_blame_30 rfl rfl ?_
      refine ex_aload_n dX9_blame_31 rfl rfl ?_
      refine ex_iload_n dX9_blame_32 rfl rfl ?_
      refine ex_callV (a := 55) (rest := [.int (nI acc)]) dX9_blame_33 rfl qp_8_89 rfl rfl rfl rfl rfl (Nat.le_of_ble_eq_true rfl) (k_isBuilt hT h (by omega)) (Nat.le_of_ble_eq_true rfl) ?_
      show Ex qm_lay _ mX9_blame 36 [some (.ref 55), some (.int (nI acc)), some (.int 1), some (.int (nI k))] [.int (b2i (Nat.testBit (tn_u T) k)), .int (nI acc)] σ _ _
      refine ex_if_eq (q := 53) (q2 := 39) dX9_blame_36 rfl rfl (fun _ => ?_) (fun hh => absurd (b2i_0.mpr (by simpa using c1)) hh)
      refine ex_iconst (x := 0) dX9_blame_53 rfl rfl ?_
      refine ex_ior (z := nI acc) dX9_blame_54 rfl (Int32.or_zero) ?_
      refine ex_istore_n (ls' := [some (.ref 55), some (.int (nI acc)), some (.int 1), some (.int (nI k))]) dX9_blame_55 rfl (Nat.le_of_ble_eq_true rfl) rfl rfl ?_
      refine ex_iinc (y := nI (k + 1)) (ls' := [some (.ref 55), some (.int (nI acc)), some (.int 1), some (.int (nI (k + 1)))]) dX9_blame_56 rfl rfl rfl (nI_add k 1) rfl ?_
      refine ex_goto (q := 18) dX9_blame_59 rfl ?_
      exact hE

set_option maxRecDepth 8000 in
set_option maxHeartbeats 2000000 in
theorem j_blame {T : tn_T} {X : gx_T} {P : gt_T} {Im : gi_T} {S : gs_T} (hG : gg_ok (T, X, P, Im, S))  : J mX8_blame mX9_blame [] (T, X, P, Im, S) := by
  have hT : tn_ok T := hG.1
  have hX : gx_ok X := hG.2.1
  have hP : gt_ok P := hG.2.2.1
  have hI : gi_ok T (gx_n X) Im := hG.2.2.2.1
  have hS : gs_ok S := hG.2.2.2.2.1
  have hw : tn_w T < gx_n X := hG.2.2.2.2.2
  have hL := hT.1
  have hw6 := hT.2.1
  have hu := tn_u_lt hT
  have hX6 := hX.2.1
  have hP6 := hP.1
  have hub := hT.2.2.1
  have hwl := wv_lt (okR T 0) (tn_L T) (tn_u T) hL 0
  by_cases c1 : 0 < wv (okR T 0) (tn_L T) (tn_u T) 0
  · refine J.u (.int 0) (T, X, P, Im, S) hG (fun σ hC => ?_) (fun σ hM => ?_)
    · have h : TR σ 9 18 T := hC.1
      obtain ⟨σ', hO, hF, h25, hs1⟩ := c_countOrders_b hT (base := 0) (out := 0) (rest := tn_u T) (by decide) (by decide) hub (fun q => qm_rF σ 21 q) h (fun q hq => rfl)
      obtain ⟨e1, e2⟩ := wv_b hT h 0
      rw [e1] at hO
      refine ⟨σ', ?_, CG.aux hG hC (hs1.wid (by omega) (by omega)), hs1.wid (by omega) (by omega)⟩
      refine Ok.of (ls := [some (.ref 54), none, none]) (Nat.le_of_ble_eq_true rfl) rfl ?_
      refine ex_aload_n dX8_blame_0 rfl rfl ?_
      refine ex_getR (b := 51) dX8_blame_1 rfl qp_7_57 rfl rfl ?_
      refine ex_aload_n dX8_blame_4 rfl rfl ?_
      refine ex_getR (b := 22) dX8_blame_5 rfl qp_7_10 rfl rfl ?_
      refine ex_iconst (x := 0) dX8_blame_8 rfl rfl ?_
      refine ex_aload_n dX8_blame_9 rfl rfl ?_
      refine ex_getR (b := 22) dX8_blame_10 rfl qp_7_10 rfl rfl ?_
      refine ex_getI (s := 12) (x := nI (tn_u T)) dX8_blame_13 rfl qp_7_65 rfl rfl (h.2.2.2.1) ?_
      refine ex_aload_n dX8_blame_16 rfl rfl ?_
      refine ex_getR (b := 22) dX8_blame_17 rfl qp_7_10 rfl rfl ?_
      refine ex_getR (b := 26) dX8_blame_20 rfl qp_7_142 rfl rfl ?_
      refine ex_iconst (x := 0) dX8_blame_23 rfl rfl ?_
      refine ex_callV (a := 51) (rest := []) dX8_blame_24 rfl qp_7_233 rfl rfl rfl rfl rfl (Nat.le_of_ble_eq_true rfl) (hO) (Nat.le_of_ble_eq_true rfl) ?_
      show Ex qm_lay _ mX8_blame 27 [some (.ref 54), none, none] [.int (nI (wv (okR T 0) (tn_L T) (tn_u T) 0))] σ' _ _
      refine ex_if_le (q := 32) (q2 := 30) dX8_blame_27 rfl rfl (fun hh => absurd hh (fun zz => absurd ((nI_leI (b := 0) (by omega) (by decide)).mp zz) (by omega))) (fun _ => ?_)
      refine ex_iconst (x := 0) dX8_blame_30 rfl rfl ?_
      exact ex_iret dX8_blame_31 rfl rfl rfl
    · have h : MR σ T := hM.1
      obtain ⟨σ', hO, hR, h45, hs1⟩ := k_fittingRows hT h hov_n
      refine ⟨σ', ?_, MG.thinkL (G := (T, X, P, Im, S)) hM hR ⟨fun s hs => hs1.1 s (by omega), fun r hr hr2 k => hs1.2 r (by omega) (by omega) k⟩, hs1.sm (by omega) (by omega) (by omega)⟩
      refine Ok.of (ls := [some (.ref 55), none, none, none]) (Nat.le_of_ble_eq_true rfl) rfl ?_
      refine ex_iconst (x := 0) dX9_blame_0 rfl rfl ?_
      refine ex_istore_n (ls' := [some (.ref 55), some (.int 0), none, none]) dX9_blame_1 rfl (Nat.le_of_ble_eq_true rfl) rfl rfl ?_
      refine ex_aload_n dX9_blame_2 rfl rfl ?_
      refine ex_iconst (x := (-1)) dX9_blame_3 rfl rfl ?_
      refine ex_callV (a := 55) (rest := []) dX9_blame_4 rfl qp_8_284 rfl rfl rfl rfl rfl (Nat.le_of_ble_eq_true rfl) (hO) (Nat.le_of_ble_eq_true rfl) ?_
      show Ex qm_lay _ mX9_blame 7 [some (.ref 55), some (.int 0), none, none] [.int (nI (wv (okR T 0) (tn_L T) (tn_u T) 0))] σ' _ _
      refine ex_if_ne (q := 14) (q2 := 10) dX9_blame_7 rfl rfl (fun _ => ?_) (fun hh => absurd (fun zz => absurd ((nI_eq (b := 0) (by omega) (by decide)).mp zz) (by omega)) hh)
      refine ex_iconst (x := 0) dX9_blame_14 rfl rfl ?_
      refine ex_istore_n (ls' := [some (.ref 55), some (.int 0), some (.int 0), none]) dX9_blame_15 rfl (Nat.le_of_ble_eq_true rfl) rfl rfl ?_
      refine ex_iconst (x := 0) dX9_blame_16 rfl rfl ?_
      refine ex_istore_n (ls' := [some (.ref 55), some (.int 0), some (.int 0), some (.int 0)]) dX9_blame_17 rfl (Nat.le_of_ble_eq_true rfl) rfl rfl ?_
      refine ex_iload_n dX9_blame_18 rfl rfl ?_
      refine ex_aload_n dX9_blame_19 rfl rfl ?_
      refine ex_getI (s := 27) (x := nI (tn_L T)) dX9_blame_20 rfl qp_8_78 rfl rfl (hR.1.1) ?_
      refine ex_icmp_ge (q := 62) (q2 := 26) dX9_blame_23 rfl rfl (fun h23 => ?_) (fun h23 => ?_)
      · have n23 : (tn_L T) ≤ 0 := (nI_leI (a := (tn_L T)) (b := 0) (by omega) (by omega)).mp h23
        refine ex_iload_n dX9_blame_62 rfl rfl ?_
        exact ex_iret dX9_blame_63 rfl rfl rfl
      · have n23 : ¬ (tn_L T) ≤ 0 := mt (nI_leI (a := (tn_L T)) (b := 0) (by omega) (by omega)).mpr h23
        refine ex_iload_n dX9_blame_26 rfl rfl ?_
        refine ex_if_eq (q := 62) (q2 := 30) dX9_blame_27 rfl rfl (fun _ => ?_) (fun hh => absurd (by decide) hh)
        refine ex_iload_n dX9_blame_62 rfl rfl ?_
        exact ex_iret dX9_blame_63 rfl rfl rfl
  · refine J.u (.int (nI (nl (hB T) (tn_L T) 0))) (T, X, P, Im, S) hG (fun σ hC => ?_) (fun σ hM => ?_)
    · have h : TR σ 9 18 T := hC.1
      obtain ⟨σ', hO, hF, h25, hs1⟩ := c_countOrders_b hT (base := 0) (out := 0) (rest := tn_u T) (by decide) (by decide) hub (fun q => qm_rF σ 21 q) h (fun q hq => rfl)
      obtain ⟨e1, e2⟩ := wv_b hT h 0
      rw [e1] at hO
      obtain ⟨σ2, hE, hC3, hs2⟩ := l_blameC hG (tn_L T) 0 0 σ' (by omega) (CG.aux hG hC (hs1.wid (by omega) (by omega)))
      rw [Nat.zero_or] at hE
      refine ⟨σ2, ?_, hC3, (hs1.wid (by omega) (by omega)).tr hs2⟩
      refine Ok.of (ls := [some (.ref 54), none, none]) (Nat.le_of_ble_eq_true rfl) rfl ?_
      refine ex_aload_n dX8_blame_0 rfl rfl ?_
      refine ex_getR (b := 51) dX8_blame_1 rfl qp_7_57 rfl rfl ?_
      refine ex_aload_n dX8_blame_4 rfl rfl ?_
      refine ex_getR (b := 22) dX8_blame_5 rfl qp_7_10 rfl rfl ?_
      refine ex_iconst (x := 0) dX8_blame_8 rfl rfl ?_
      refine ex_aload_n dX8_blame_9 rfl rfl ?_
      refine ex_getR (b := 22) dX8_blame_10 rfl qp_7_10 rfl rfl ?_
      refine ex_getI (s := 12) (x := nI (tn_u T)) dX8_blame_13 rfl qp_7_65 rfl rfl (h.2.2.2.1) ?_
      refine ex_aload_n dX8_blame_16 rfl rfl ?_
      refine ex_getR (b := 22) dX8_blame_17 rfl qp_7_10 rfl rfl ?_
      refine ex_getR (b := 26) dX8_blame_20 rfl qp_7_142 rfl rfl ?_
      refine ex_iconst (x := 0) dX8_blame_23 rfl rfl ?_
      refine ex_callV (a := 51) (rest := []) dX8_blame_24 rfl qp_7_233 rfl rfl rfl rfl rfl (Nat.le_of_ble_eq_true rfl) (hO) (Nat.le_of_ble_eq_true rfl) ?_
      show Ex qm_lay _ mX8_blame 27 [some (.ref 54), none, none] [.int (nI (wv (okR T 0) (tn_L T) (tn_u T) 0))] σ' _ _
      refine ex_if_le (q := 32) (q2 := 30) dX8_blame_27 rfl rfl (fun _ => ?_) (fun hh => absurd (nI_le (b := 0) (by omega) (by decide)) hh)
      refine ex_iconst (x := 0) dX8_blame_32 rfl rfl ?_
      refine ex_istore_n (ls' := [some (.ref 54), some (.int 0), none]) dX8_blame_33 rfl (Nat.le_of_ble_eq_true rfl) rfl rfl ?_
      refine ex_iconst (x := 0) dX8_blame_34 rfl rfl ?_
      refine ex_istore_n (ls' := [some (.ref 54), some (.int 0), some (.int 0)]) dX8_blame_35 rfl (Nat.le_of_ble_eq_true rfl) rfl rfl ?_
      exact hE
    · have h : MR σ T := hM.1
      obtain ⟨σ', hO, hR, h45, hs1⟩ := k_fittingRows hT h hov_n
      obtain ⟨σ2, hE, hM3, hs2⟩ := l_blameM hG (tn_L T) 0 0 σ' (by omega) (MG.thinkL (G := (T, X, P, Im, S)) hM hR ⟨fun s hs => hs1.1 s (by omega), fun r hr hr2 k => hs1.2 r (by omega) (by omega) k⟩)
      rw [Nat.zero_or] at hE
      refine ⟨σ2, ?_, hM3, (hs1.sm (by omega) (by omega) (by omega)).tr hs2⟩
      refine Ok.of (ls := [some (.ref 55), none, none, none]) (Nat.le_of_ble_eq_true rfl) rfl ?_
      refine ex_iconst (x := 0) dX9_blame_0 rfl rfl ?_
      refine ex_istore_n (ls' := [some (.ref 55), some (.int 0), none, none]) dX9_blame_1 rfl (Nat.le_of_ble_eq_true rfl) rfl rfl ?_
      refine ex_aload_n dX9_blame_2 rfl rfl ?_
      refine ex_iconst (x := (-1)) dX9_blame_3 rfl rfl ?_
      refine ex_callV (a := 55) (rest := []) dX9_blame_4 rfl qp_8_284 rfl rfl rfl rfl rfl (Nat.le_of_ble_eq_true rfl) (hO) (Nat.le_of_ble_eq_true rfl) ?_
      show Ex qm_lay _ mX9_blame 7 [some (.ref 55), some (.int 0), none, none] [.int (nI (wv (okR T 0) (tn_L T) (tn_u T) 0))] σ' _ _
      refine ex_if_ne (q := 14) (q2 := 10) dX9_blame_7 rfl rfl (fun hh => absurd hh (fun zz => zz (by rw [show wv (okR T 0) (tn_L T) (tn_u T) 0 = 0 by omega]; rfl))) (fun _ => ?_)
      refine ex_iconst (x := 1) dX9_blame_10 rfl rfl ?_
      refine ex_goto (q := 15) dX9_blame_11 rfl ?_
      refine ex_istore_n (ls' := [some (.ref 55), some (.int 0), some (.int 1), none]) dX9_blame_15 rfl (Nat.le_of_ble_eq_true rfl) rfl rfl ?_
      refine ex_iconst (x := 0) dX9_blame_16 rfl rfl ?_
      refine ex_istore_n (ls' := [some (.ref 55), some (.int 0), some (.int 1), some (.int 0)]) dX9_blame_17 rfl (Nat.le_of_ble_eq_true rfl) rfl rfl ?_
      exact hE

set_option maxRecDepth 8000 in
set_option maxHeartbeats 2000000 in
theorem k_isSoByRow {σ : qm_St} {T : tn_T} (hT : tn_ok T) (h : MR σ T) {S : gs_T} (hSM : SM σ S) {s : Nat} (hs4 : s < 4) {os : List Nat} (hor : RR σ os) (hos : ∀ l ∈ os, l < tn_L T) : ∃ σ', Ok qm_lay 6 mX9_isSoByRow [.ref 55, .int (nI s)] σ (some (.int (b2i (ps T (S.2.2 s) os)))) σ' ∧ MR σ' T ∧ sl σ σ' 43 44 44 47 59 60 := by
  obtain ⟨σ1, hO1, hK1, hs1⟩ := k_keeps hT h
  obtain ⟨σ2, hO2, hR2, hs2⟩ := k_buildsRow hT (h.sm hs1 (by omega) (by omega)) (hor.sm hs1 (by omega) (by omega)) hos (n := os.length) (Nat.le_refl _)
  have hok2 := tn_bl_ok (os.take (os.length)) hT (os_take_ok hos)
  obtain ⟨q1, q2, q3, q4, q5⟩ := tn_bl_same (os.take (os.length)) T
  obtain ⟨σ3, hO3, hR3, hs3⟩ := k_laysBack hT (hK1.sm hs2 (by omega) (by omega)) (MS.ext hR2.1 q1.symm q2.symm q5.symm q4.symm)
  have hsl := back_sl2 h hR3 hs1 hs2 hs3
  refine ⟨σ3, ?_, hR3, hsl⟩
  refine Ok.of (ls := [some (.ref 55), some (.int (nI s)), none]) (Nat.le_of_ble_eq_true rfl) rfl ?_
  refine ex_aload_n dX9_isSoByRow_0 rfl rfl ?_
  refine ex_callV (a := 55) (rest := []) dX9_isSoByRow_1 rfl qp_8_226 rfl rfl rfl rfl rfl (Nat.le_of_ble_eq_true rfl) (hO1) (Nat.le_of_ble_eq_true rfl) ?_
  show Ex qm_lay _ mX9_isSoByRow 4 [some (.ref 55), some (.int (nI s)), none] [] σ1 _ _
  refine ex_aload_n dX9_isSoByRow_4 rfl rfl ?_
  refine ex_aload_n dX9_isSoByRow_5 rfl rfl ?_
  refine ex_getI (s := 44) (x := nI os.length) dX9_isSoByRow_6 rfl qp_8_235 rfl rfl ((hor.sm hs1 (by omega) (by omega)).1) ?_
  refine ex_callV (a := 55) (rest := []) dX9_isSoByRow_9 rfl qp_8_241 rfl rfl rfl rfl rfl (Nat.le_of_ble_eq_true rfl) (hO2) (Nat.le_of_ble_eq_true rfl) ?_
  show Ex qm_lay _ mX9_isSoByRow 12 [some (.ref 55), some (.int (nI s)), none] [] σ2 _ _
  refine ex_aload_n dX9_isSoByRow_12 rfl rfl ?_
  refine ex_iload_n dX9_isSoByRow_13 rfl rfl ?_
  refine ex_callV (a := 55) (rest := []) dX9_isSoByRow_14 rfl qp_8_290 rfl rfl rfl rfl rfl (Nat.le_of_ble_eq_true rfl) ((by have z := k_unlike hok2 hR2 ((hSM.sm hs1 (by omega)).sm hs2 (by omega)) hs4; rw [q1] at z; exact z)) (Nat.le_of_ble_eq_true rfl) ?_
  show Ex qm_lay _ mX9_isSoByRow 17 [some (.ref 55), some (.int (nI s)), none] [.int (ff (fun l => !decide (S.2.2 s l = tn_cv (tn_bl T (os.take os.length)) l)) (tn_L T) 0)] σ2 _ _
  refine ex_iconst (x := (-1)) dX9_isSoByRow_17 rfl rfl ?_
  refine ex_icmp_ne (q := 25) (q2 := 21) dX9_isSoByRow_18 rfl rfl (fun h18 => ?_) (fun h18 => ?_)
  · have e1 : ps T (S.2.2 s) os = false := decide_eq_false (by rw [List.take_length] at h18; exact h18)
    rw [e1]
    refine ex_iconst (x := 0) dX9_isSoByRow_25 rfl rfl ?_
    refine ex_istore_n (ls' := [some (.ref 55), some (.int (nI s)), some (.int 0)]) dX9_isSoByRow_26 rfl (Nat.le_of_ble_eq_true rfl) rfl rfl ?_
    refine ex_aload_n dX9_isSoByRow_27 rfl rfl ?_
    refine ex_callV (a := 55) (rest := []) dX9_isSoByRow_28 rfl qp_8_229 rfl rfl rfl rfl rfl (Nat.le_of_ble_eq_true rfl) (hO3) (Nat.le_of_ble_eq_true rfl) ?_
    show Ex qm_lay _ mX9_isSoByRow 31 [some (.ref 55), some (.int (nI s)), some (.int 0)] [] σ3 _ _
    refine ex_iload_n dX9_isSoByRow_31 rfl rfl ?_
    exact ex_zret dX9_isSoByRow_32 rfl (by decide) rfl rfl
  · have e1 : ps T (S.2.2 s) os = true := decide_eq_true (by rw [List.take_length] at h18; exact Decidable.not_not.mp h18)
    rw [e1]
    refine ex_iconst (x := 1) dX9_isSoByRow_21 rfl rfl ?_
    refine ex_goto (q := 26) dX9_isSoByRow_22 rfl ?_
    refine ex_istore_n (ls' := [some (.ref 55), some (.int (nI s)), some (.int 1)]) dX9_isSoByRow_26 rfl (Nat.le_of_ble_eq_true rfl) rfl rfl ?_
    refine ex_aload_n dX9_isSoByRow_27 rfl rfl ?_
    refine ex_callV (a := 55) (rest := []) dX9_isSoByRow_28 rfl qp_8_229 rfl rfl rfl rfl rfl (Nat.le_of_ble_eq_true rfl) (hO3) (Nat.le_of_ble_eq_true rfl) ?_
    show Ex qm_lay _ mX9_isSoByRow 31 [some (.ref 55), some (.int (nI s)), some (.int 1)] [] σ3 _ _
    refine ex_iload_n dX9_isSoByRow_31 rfl rfl ?_
    exact ex_zret dX9_isSoByRow_32 rfl (by decide) rfl rfl

set_option maxRecDepth 8000 in
set_option maxHeartbeats 2000000 in
theorem l_plansM {T : tn_T} {X : gx_T} {P : gt_T} {Im : gi_T} {S : gs_T} (hG : gg_ok (T, X, P, Im, S)) {s q : Nat} (hs4 : s < 4) (hq : q ≤ 1) : ∀ (ls : List (List Nat)) (os : List Nat) (m : Nat) (F : Int32) (σ : qm_St), ch (os :: ls) = true → (∀ o ∈ os :: ls, ∀ l ∈ o, l < tn_L T) → m + ls.length + 1 < 2 ^ 31 → MG σ (T, X, P, Im, S) → RR σ os → ∃ σ', Ex qm_lay 100 mX9_plans 41 [some (.ref 55), some (.int (nI s)), some (.int (nI q)), some (.int 0), some (.int (nI m)), some (.int F), some (.int 1)] [] σ (some (.int (if q = 0 then nI (m + cp (ps T (S.2.2 s)) (os :: ls)) else gF (ps T (S.2.2 s)) (os :: ls) m F))) σ' ∧ MG σ' (T, X, P, Im, S) ∧ sm σ σ' 27 46 42 62 := by
  have hT : tn_ok T := hG.1
  have hL := hT.1
  intro ls
  induction ls with
  | nil =>
    intro os m F σ hch hel hm hM hor
    have h : MR σ T := hM.1
    have hos := hel os List.mem_cons_self
    have ho7 := hor.2.1
    rw [List.length_nil] at hm
    obtain ⟨σ1, hO, hR, hs1⟩ := k_isSoByRow hT h (S := S) hM.2.2.2.2.1 hs4 hor hos
    have hor1 := hor.sl hs1
    have hM1 := MG.thinkL (G := (T, X, P, Im, S)) hM hR ⟨fun s hs => hs1.1 s (by omega), fun r hr hr2 k => hs1.2 r (by omega) (by omega) k⟩
    have hs12 : sm σ σ1 27 46 42 62 := hs1.sm (by omega) (by omega) (by omega)
    have hosL : ∀ l ∈ os, l < 7 := fun l hl => Nat.lt_of_lt_of_le (hos l hl) hL
    obtain ⟨σ2, hO2, hR2, hs2⟩ := k_nextRow hor1 hosL
    have hM2 := MG.aux hM1 (hs2.wid (i3 := 36) (i4 := 46) (j3 := 56) (j4 := 62) (by omega) (by omega))
    have hs13 : sm σ σ2 27 46 42 62 := hs12.tr (hs2.wid (by omega) (by omega))
    have hnx : nx os = none := of_decide_eq_true hch
    rw [hnx] at hO2
    refine ⟨σ2, ?_, hM2, hs13⟩
    cases e : ps T (S.2.2 s) os with
    | true =>
      rw [e] at hO
      rw [gF_t e, show cp (ps T (S.2.2 s)) (os :: []) = 1 + cp (ps T (S.2.2 s)) [] by show (if ps T (S.2.2 s) os = true then 1 else 0) + _ = _; rw [if_pos e]]
      rw [show gF (ps T (S.2.2 s)) [] (m + 1) (if m = 0 then nI (dg os) else F) = (if m = 0 then nI (dg os) else F) from rfl, show 1 + cp (ps T (S.2.2 s)) [] = 1 from rfl]
      by_cases cm : m = 0
      · simp only [if_pos cm]
        refine ex_iload dX9_plans_41 rfl rfl ?_
        refine ex_if_eq (q := 82) (q2 := 46) dX9_plans_43 rfl rfl (fun hh => absurd hh (by decide)) (fun _ => ?_)
        refine ex_aload_n dX9_plans_46 rfl rfl ?_
        refine ex_iload_n dX9_plans_47 rfl rfl ?_
        refine ex_callV (a := 55) (rest := []) dX9_plans_48 rfl qp_8_293 rfl rfl rfl rfl rfl (Nat.le_of_ble_eq_true rfl) (hO) (Nat.le_of_ble_eq_true rfl) ?_
        show Ex qm_lay _ mX9_plans 51 [some (.ref 55), some (.int (nI s)), some (.int (nI q)), some (.int 0), some (.int (nI m)), some (.int F), some (.int 1)] [.int 1] σ1 _ _
        refine ex_if_eq (q := 73) (q2 := 54) dX9_plans_51 rfl rfl (fun hh => absurd hh (by decide)) (fun _ => ?_)
        refine ex_iload dX9_plans_54 rfl rfl ?_
        refine ex_if_ne (q := 66) (q2 := 59) dX9_plans_56 rfl rfl (fun hh => absurd hh (fun zz => zz (by rw [cm]; rfl))) (fun _ => ?_)
        refine ex_aload_n dX9_plans_59 rfl rfl ?_
        refine ex_callV (a := 55) (rest := []) dX9_plans_60 rfl qp_8_253 rfl rfl rfl rfl rfl (Nat.le_of_ble_eq_true rfl) (k_rowDigits hor1) (Nat.le_of_ble_eq_true rfl) ?_
        show Ex qm_lay _ mX9_plans 63 [some (.ref 55), some (.int (nI s)), some (.int (nI q)), some (.int 0), some (.int (nI m)), some (.int F), some (.int 1)] [.int (nI (dg os))] σ1 _ _
        refine ex_goto (q := 68) dX9_plans_63 rfl ?_
        refine ex_istore (ls' := [some (.ref 55), some (.int (nI s)), some (.int (nI q)), some (.int 0), some (.int (nI m)), some (.int (nI (dg os))), some (.int 1)]) dX9_plans_68 rfl (Nat.le_of_ble_eq_true rfl) rfl rfl ?_
        refine ex_iinc (y := nI (m + 1)) (ls' := [some (.ref 55), some (.int (nI s)), some (.int (nI q)), some (.int 0), some (.int (nI (m + 1))), some (.int (nI (dg os))), some (.int 1)]) dX9_plans_70 rfl rfl rfl (nI_add m 1) rfl ?_
        refine ex_aload_n dX9_plans_73 rfl rfl ?_
        refine ex_callV (a := 55) (rest := []) dX9_plans_74 rfl qp_8_256 rfl rfl rfl rfl rfl (Nat.le_of_ble_eq_true rfl) (hO2) (Nat.le_of_ble_eq_true rfl) ?_
        show Ex qm_lay _ mX9_plans 77 [some (.ref 55), some (.int (nI s)), some (.int (nI q)), some (.int 0), some (.int (nI (m + 1))), some (.int (nI (dg os))), some (.int 1)] [.int 0] σ2 _ _
        refine ex_istore (ls' := [some (.ref 55), some (.int (nI s)), some (.int (nI q)), some (.int 0), some (.int (nI (m + 1))), some (.int (nI (dg os))), some (.int 0)]) dX9_plans_77 rfl (Nat.le_of_ble_eq_true rfl) rfl rfl ?_
        refine ex_goto (q := 41) dX9_plans_79 rfl ?_
        refine ex_iload dX9_plans_41 rfl rfl ?_
        refine ex_if_eq (q := 82) (q2 := 46) dX9_plans_43 rfl rfl (fun _ => ?_) (fun hh => absurd (by decide) hh)
        refine ex_iload_n dX9_plans_82 rfl rfl ?_
        refine ex_if_ne (q := 91) (q2 := 86) dX9_plans_83 rfl rfl (fun h83 => ?_) (fun h83 => ?_)
        · have hq0 : ¬ q = 0 := fun z => h83 (congrArg nI z)
          refine ex_iload dX9_plans_91 rfl rfl ?_
          exact ex_iret dX9_plans_93 rfl (by first | rw [if_neg hq0] | rw [if_pos hq0]) rfl
        · have hq0 : q = 0 := (nI_eq (b := 0) (by omega) (by decide)).mp (Decidable.not_not.mp h83)
          refine ex_iload dX9_plans_86 rfl rfl ?_
          refine ex_goto (q := 93) dX9_plans_88 rfl ?_
          exact ex_iret dX9_plans_93 rfl (by first | rw [if_neg hq0] | rw [if_pos hq0]) rfl
      · simp only [if_neg cm]
        refine ex_iload dX9_plans_41 rfl rfl ?_
        refine ex_if_eq (q := 82) (q2 := 46) dX9_plans_43 rfl rfl (fun hh => absurd hh (by decide)) (fun _ => ?_)
        refine ex_aload_n dX9_plans_46 rfl rfl ?_
        refine ex_iload_n dX9_plans_47 rfl rfl ?_
        refine ex_callV (a := 55) (rest := []) dX9_plans_48 rfl qp_8_293 rfl rfl rfl rfl rfl (Nat.le_of_ble_eq_true rfl) (hO) (Nat.le_of_ble_eq_true rfl) ?_
        show Ex qm_lay _ mX9_plans 51 [some (.ref 55), some (.int (nI s)), some (.int (nI q)), some (.int 0), some (.int (nI m)), some (.int F), some (.int 1)] [.int 1] σ1 _ _
        refine ex_if_eq (q := 73) (q2 := 54) dX9_plans_51 rfl rfl (fun hh => absurd hh (by decide)) (fun _ => ?_)
        refine ex_iload dX9_plans_54 rfl rfl ?_
        refine ex_if_ne (q := 66) (q2 := 59) dX9_plans_56 rfl rfl (fun _ => ?_) (fun hh => absurd (fun zz => cm ((nI_eq (b := 0) (by omega) (by decide)).mp zz)) hh)
        refine ex_iload dX9_plans_66 rfl rfl ?_
        refine ex_istore (ls' := [some (.ref 55), some (.int (nI s)), some (.int (nI q)), some (.int 0), some (.int (nI m)), some (.int F), some (.int 1)]) dX9_plans_68 rfl (Nat.le_of_ble_eq_true rfl) rfl rfl ?_
        refine ex_iinc (y := nI (m + 1)) (ls' := [some (.ref 55), some (.int (nI s)), some (.int (nI q)), some (.int 0), some (.int (nI (m + 1))), some (.int F), some (.int 1)]) dX9_plans_70 rfl rfl rfl (nI_add m 1) rfl ?_
        refine ex_aload_n dX9_plans_73 rfl rfl ?_
        refine ex_callV (a := 55) (rest := []) dX9_plans_74 rfl qp_8_256 rfl rfl rfl rfl rfl (Nat.le_of_ble_eq_true rfl) (hO2) (Nat.le_of_ble_eq_true rfl) ?_
        show Ex qm_lay _ mX9_plans 77 [some (.ref 55), some (.int (nI s)), some (.int (nI q)), some (.int 0), some (.int (nI (m + 1))), some (.int F), some (.int 1)] [.int 0] σ2 _ _
        refine ex_istore (ls' := [some (.ref 55), some (.int (nI s)), some (.int (nI q)), some (.int 0), some (.int (nI (m + 1))), some (.int F), some (.int 0)]) dX9_plans_77 rfl (Nat.le_of_ble_eq_true rfl) rfl rfl ?_
        refine ex_goto (q := 41) dX9_plans_79 rfl ?_
        refine ex_iload dX9_plans_41 rfl rfl ?_
        refine ex_if_eq (q := 82) (q2 := 46) dX9_plans_43 rfl rfl (fun _ => ?_) (fun hh => absurd (by decide) hh)
        refine ex_iload_n dX9_plans_82 rfl rfl ?_
        refine ex_if_ne (q := 91) (q2 := 86) dX9_plans_83 rfl rfl (fun h83 => ?_) (fun h83 => ?_)
        · have hq0 : ¬ q = 0 := fun z => h83 (congrArg nI z)
          refine ex_iload dX9_plans_91 rfl rfl ?_
          exact ex_iret dX9_plans_93 rfl (by first | rw [if_neg hq0] | rw [if_pos hq0]) rfl
        · have hq0 : q = 0 := (nI_eq (b := 0) (by omega) (by decide)).mp (Decidable.not_not.mp h83)
          refine ex_iload dX9_plans_86 rfl rfl ?_
          refine ex_goto (q := 93) dX9_plans_88 rfl ?_
          exact ex_iret dX9_plans_93 rfl (by first | rw [if_neg hq0] | rw [if_pos hq0]) rfl
    | false =>
      rw [e] at hO
      rw [gF_f e, show cp (ps T (S.2.2 s)) (os :: []) = cp (ps T (S.2.2 s)) [] by show (if ps T (S.2.2 s) os = true then 1 else 0) + _ = _; rw [e, if_neg (by decide), Nat.zero_add]]
      rw [show gF (ps T (S.2.2 s)) [] m F = F by unfold gF; split <;> rfl, show cp (ps T (S.2.2 s)) [] = 0 from rfl, Nat.add_zero]
      refine ex_iload dX9_plans_41 rfl rfl ?_
      refine ex_if_eq (q := 82) (q2 := 46) dX9_plans_43 rfl rfl (fun hh => absurd hh (by decide)) (fun _ => ?_)
      refine ex_aload_n dX9_plans_46 rfl rfl ?_
      refine ex_iload_n dX9_plans_47 rfl rfl ?_
      refine ex_callV (a := 55) (rest := []) dX9_plans_48 rfl qp_8_293 rfl rfl rfl rfl rfl (Nat.le_of_ble_eq_true rfl) (hO) (Nat.le_of_ble_eq_true rfl) ?_
      show Ex qm_lay _ mX9_plans 51 [some (.ref 55), some (.int (nI s)), some (.int (nI q)), some (.int 0), some (.int (nI m)), some (.int F), some (.int 1)] [.int 0] σ1 _ _
      refine ex_if_eq (q := 73) (q2 := 54) dX9_plans_51 rfl rfl (fun _ => ?_) (fun hh => absurd (by decide) hh)
      refine ex_aload_n dX9_plans_73 rfl rfl ?_
      refine ex_callV (a := 55) (rest := []) dX9_plans_74 rfl qp_8_256 rfl rfl rfl rfl rfl (Nat.le_of_ble_eq_true rfl) (hO2) (Nat.le_of_ble_eq_true rfl) ?_
      show Ex qm_lay _ mX9_plans 77 [some (.ref 55), some (.int (nI s)), some (.int (nI q)), some (.int 0), some (.int (nI m)), some (.int F), some (.int 1)] [.int 0] σ2 _ _
      refine ex_istore (ls' := [some (.ref 55), some (.int (nI s)), some (.int (nI q)), some (.int 0), some (.int (nI m)), some (.int F), some (.int 0)]) dX9_plans_77 rfl (Nat.le_of_ble_eq_true rfl) rfl rfl ?_
      refine ex_goto (q := 41) dX9_plans_79 rfl ?_
      refine ex_iload dX9_plans_41 rfl rfl ?_
      refine ex_if_eq (q := 82) (q2 := 46) dX9_plans_43 rfl rfl (fun _ => ?_) (fun hh => absurd (by decide) hh)
      refine ex_iload_n dX9_plans_82 rfl rfl ?_
      refine ex_if_ne (q := 91) (q2 := 86) dX9_plans_83 rfl rfl (fun h83 => ?_) (fun h83 => ?_)
      · have hq0 : ¬ q = 0 := fun z => h83 (congrArg nI z)
        refine ex_iload dX9_plans_91 rfl rfl ?_
        exact ex_iret dX9_plans_93 rfl (by first | rw [if_neg hq0] | rw [if_pos hq0]) rfl
      · have hq0 : q = 0 := (nI_eq (b := 0) (by omega) (by decide)).mp (Decidable.not_not.mp h83)
        refine ex_iload dX9_plans_86 rfl rfl ?_
        refine ex_goto (q := 93) dX9_plans_88 rfl ?_
        exact ex_iret dX9_plans_93 rfl (by first | rw [if_neg hq0] | rw [if_pos hq0]) rfl
  | cons o2 ls ih =>
    intro os m F σ hch hel hm hM hor
    have h : MR σ T := hM.1
    have hos := hel os List.mem_cons_self
    have ho7 := hor.2.1
    rw [List.length_cons] at hm
    obtain ⟨σ1, hO, hR, hs1⟩ := k_isSoByRow hT h (S := S) hM.2.2.2.2.1 hs4 hor hos
    have hor1 := hor.sl hs1
    have hM1 := MG.thinkL (G := (T, X, P, Im, S)) hM hR ⟨fun s hs => hs1.1 s (by omega), fun r hr hr2 k => hs1.2 r (by omega) (by omega) k⟩
    have hs12 : sm σ σ1 27 46 42 62 := hs1.sm (by omega) (by omega) (by omega)
    have hosL : ∀ l ∈ os, l < 7 := fun l hl => Nat.lt_of_lt_of_le (hos l hl) hL
    obtain ⟨σ2, hO2, hR2, hs2⟩ := k_nextRow hor1 hosL
    have hM2 := MG.aux hM1 (hs2.wid (i3 := 36) (i4 := 46) (j3 := 56) (j4 := 62) (by omega) (by omega))
    have hs13 : sm σ σ2 27 46 42 62 := hs12.tr (hs2.wid (by omega) (by omega))
    have hch2 : nx os = some o2 ∧ ch (o2 :: ls) = true := by
      have z : (decide (nx os = some o2) && ch (o2 :: ls)) = true := hch
      rw [Bool.and_eq_true] at z
      exact ⟨of_decide_eq_true z.1, z.2⟩
    rw [hch2.1] at hO2 hR2
    cases e : ps T (S.2.2 s) os with
    | true =>
      rw [e] at hO
      rw [gF_t e, show cp (ps T (S.2.2 s)) (os :: (o2 :: ls)) = 1 + cp (ps T (S.2.2 s)) (o2 :: ls) by show (if ps T (S.2.2 s) os = true then 1 else 0) + _ = _; rw [if_pos e]]
      obtain ⟨σ3, hE, hM3, hs3⟩ := ih o2 (m + 1) (if m = 0 then nI (dg os) else F) σ2 hch2.2 (fun o ho => hel o (List.mem_cons_of_mem _ ho)) (by omega) hM2 hR2
      refine ⟨σ3, ?_, hM3, hs13.tr hs3⟩
      rw [← Nat.add_assoc]
      by_cases cm : m = 0
      · simp only [if_pos cm] at hE ⊢
        refine ex_iload dX9_plans_41 rfl rfl ?_
        refine ex_if_eq (q := 82) (q2 := 46) dX9_plans_43 rfl rfl (fun hh => absurd hh (by decide)) (fun _ => ?_)
        refine ex_aload_n dX9_plans_46 rfl rfl ?_
        refine ex_iload_n dX9_plans_47 rfl rfl ?_
        refine ex_callV (a := 55) (rest := []) dX9_plans_48 rfl qp_8_293 rfl rfl rfl rfl rfl (Nat.le_of_ble_eq_true rfl) (hO) (Nat.le_of_ble_eq_true rfl) ?_
        show Ex qm_lay _ mX9_plans 51 [some (.ref 55), some (.int (nI s)), some (.int (nI q)), some (.int 0), some (.int (nI m)), some (.int F), some (.int 1)] [.int 1] σ1 _ _
        refine ex_if_eq (q := 73) (q2 := 54) dX9_plans_51 rfl rfl (fun hh => absurd hh (by decide)) (fun _ => ?_)
        refine ex_iload dX9_plans_54 rfl rfl ?_
        refine ex_if_ne (q := 66) (q2 := 59) dX9_plans_56 rfl rfl (fun hh => absurd hh (fun zz => zz (by rw [cm]; rfl))) (fun _ => ?_)
        refine ex_aload_n dX9_plans_59 rfl rfl ?_
        refine ex_callV (a := 55) (rest := []) dX9_plans_60 rfl qp_8_253 rfl rfl rfl rfl rfl (Nat.le_of_ble_eq_true rfl) (k_rowDigits hor1) (Nat.le_of_ble_eq_true rfl) ?_
        show Ex qm_lay _ mX9_plans 63 [some (.ref 55), some (.int (nI s)), some (.int (nI q)), some (.int 0), some (.int (nI m)), some (.int F), some (.int 1)] [.int (nI (dg os))] σ1 _ _
        refine ex_goto (q := 68) dX9_plans_63 rfl ?_
        refine ex_istore (ls' := [some (.ref 55), some (.int (nI s)), some (.int (nI q)), some (.int 0), some (.int (nI m)), some (.int (nI (dg os))), some (.int 1)]) dX9_plans_68 rfl (Nat.le_of_ble_eq_true rfl) rfl rfl ?_
        refine ex_iinc (y := nI (m + 1)) (ls' := [some (.ref 55), some (.int (nI s)), some (.int (nI q)), some (.int 0), some (.int (nI (m + 1))), some (.int (nI (dg os))), some (.int 1)]) dX9_plans_70 rfl rfl rfl (nI_add m 1) rfl ?_
        refine ex_aload_n dX9_plans_73 rfl rfl ?_
        refine ex_callV (a := 55) (rest := []) dX9_plans_74 rfl qp_8_256 rfl rfl rfl rfl rfl (Nat.le_of_ble_eq_true rfl) (hO2) (Nat.le_of_ble_eq_true rfl) ?_
        show Ex qm_lay _ mX9_plans 77 [some (.ref 55), some (.int (nI s)), some (.int (nI q)), some (.int 0), some (.int (nI (m + 1))), some (.int (nI (dg os))), some (.int 1)] [.int 1] σ2 _ _
        refine ex_istore (ls' := [some (.ref 55), some (.int (nI s)), some (.int (nI q)), some (.int 0), some (.int (nI (m + 1))), some (.int (nI (dg os))), some (.int 1)]) dX9_plans_77 rfl (Nat.le_of_ble_eq_true rfl) rfl rfl ?_
        refine ex_goto (q := 41) dX9_plans_79 rfl ?_
        exact hE
      · simp only [if_neg cm] at hE ⊢
        refine ex_iload dX9_plans_41 rfl rfl ?_
        refine ex_if_eq (q := 82) (q2 := 46) dX9_plans_43 rfl rfl (fun hh => absurd hh (by decide)) (fun _ => ?_)
        refine ex_aload_n dX9_plans_46 rfl rfl ?_
        refine ex_iload_n dX9_plans_47 rfl rfl ?_
        refine ex_callV (a := 55) (rest := []) dX9_plans_48 rfl qp_8_293 rfl rfl rfl rfl rfl (Nat.le_of_ble_eq_true rfl) (hO) (Nat.le_of_ble_eq_true rfl) ?_
        show Ex qm_lay _ mX9_plans 51 [some (.ref 55), some (.int (nI s)), some (.int (nI q)), some (.int 0), some (.int (nI m)), some (.int F), some (.int 1)] [.int 1] σ1 _ _
        refine ex_if_eq (q := 73) (q2 := 54) dX9_plans_51 rfl rfl (fun hh => absurd hh (by decide)) (fun _ => ?_)
        refine ex_iload dX9_plans_54 rfl rfl ?_
        refine ex_if_ne (q := 66) (q2 := 59) dX9_plans_56 rfl rfl (fun _ => ?_) (fun hh => absurd (fun zz => cm ((nI_eq (b := 0) (by omega) (by decide)).mp zz)) hh)
        refine ex_iload dX9_plans_66 rfl rfl ?_
        refine ex_istore (ls' := [some (.ref 55), some (.int (nI s)), some (.int (nI q)), some (.int 0), some (.int (nI m)), some (.int F), some (.int 1)]) dX9_plans_68 rfl (Nat.le_of_ble_eq_true rfl) rfl rfl ?_
        refine ex_iinc (y := nI (m + 1)) (ls' := [some (.ref 55), some (.int (nI s)), some (.int (nI q)), some (.int 0), some (.int (nI (m + 1))), some (.int F), some (.int 1)]) dX9_plans_70 rfl rfl rfl (nI_add m 1) rfl ?_
        refine ex_aload_n dX9_plans_73 rfl rfl ?_
        refine ex_callV (a := 55) (rest := []) dX9_plans_74 rfl qp_8_256 rfl rfl rfl rfl rfl (Nat.le_of_ble_eq_true rfl) (hO2) (Nat.le_of_ble_eq_true rfl) ?_
        show Ex qm_lay _ mX9_plans 77 [some (.ref 55), some (.int (nI s)), some (.int (nI q)), some (.int 0), some (.int (nI (m + 1))), some (.int F), some (.int 1)] [.int 1] σ2 _ _
        refine ex_istore (ls' := [some (.ref 55), some (.int (nI s)), some (.int (nI q)), some (.int 0), some (.int (nI (m + 1))), some (.int F), some (.int 1)]) dX9_plans_77 rfl (Nat.le_of_ble_eq_true rfl) rfl rfl ?_
        refine ex_goto (q := 41) dX9_plans_79 rfl ?_
        exact hE
    | false =>
      rw [e] at hO
      rw [gF_f e, show cp (ps T (S.2.2 s)) (os :: (o2 :: ls)) = cp (ps T (S.2.2 s)) (o2 :: ls) by show (if ps T (S.2.2 s) os = true then 1 else 0) + _ = _; rw [e, if_neg (by decide), Nat.zero_add]]
      obtain ⟨σ3, hE, hM3, hs3⟩ := ih o2 m F σ2 hch2.2 (fun o ho => hel o (List.mem_cons_of_mem _ ho)) (by omega) hM2 hR2
      refine ⟨σ3, ?_, hM3, hs13.tr hs3⟩
      refine ex_iload dX9_plans_41 rfl rfl ?_
      refine ex_if_eq (q := 82) (q2 := 46) dX9_plans_43 rfl rfl (fun hh => absurd hh (by decide)) (fun _ => ?_)
      refine ex_aload_n dX9_plans_46 rfl rfl ?_
      refine ex_iload_n dX9_plans_47 rfl rfl ?_
      refine ex_callV (a := 55) (rest := []) dX9_plans_48 rfl qp_8_293 rfl rfl rfl rfl rfl (Nat.le_of_ble_eq_true rfl) (hO) (Nat.le_of_ble_eq_true rfl) ?_
      show Ex qm_lay _ mX9_plans 51 [some (.ref 55), some (.int (nI s)), some (.int (nI q)), some (.int 0), some (.int (nI m)), some (.int F), some (.int 1)] [.int 0] σ1 _ _
      refine ex_if_eq (q := 73) (q2 := 54) dX9_plans_51 rfl rfl (fun _ => ?_) (fun hh => absurd (by decide) hh)
      refine ex_aload_n dX9_plans_73 rfl rfl ?_
      refine ex_callV (a := 55) (rest := []) dX9_plans_74 rfl qp_8_256 rfl rfl rfl rfl rfl (Nat.le_of_ble_eq_true rfl) (hO2) (Nat.le_of_ble_eq_true rfl) ?_
      show Ex qm_lay _ mX9_plans 77 [some (.ref 55), some (.int (nI s)), some (.int (nI q)), some (.int 0), some (.int (nI m)), some (.int F), some (.int 1)] [.int 1] σ2 _ _
      refine ex_istore (ls' := [some (.ref 55), some (.int (nI s)), some (.int (nI q)), some (.int 0), some (.int (nI m)), some (.int F), some (.int 1)]) dX9_plans_77 rfl (Nat.le_of_ble_eq_true rfl) rfl rfl ?_
      refine ex_goto (q := 41) dX9_plans_79 rfl ?_
      exact hE

set_option maxRecDepth 8000 in
set_option maxHeartbeats 2000000 in
theorem j_plans {T : tn_T} {X : gx_T} {P : gt_T} {Im : gi_T} {S : gs_T} (hG : gg_ok (T, X, P, Im, S)) (s q : Int32) : J mX8_plans mX9_plans [.int s, .int q] (T, X, P, Im, S) := by
  have hT : tn_ok T := hG.1
  have hX : gx_ok X := hG.2.1
  have hP : gt_ok P := hG.2.2.1
  have hI : gi_ok T (gx_n X) Im := hG.2.2.2.1
  have hS : gs_ok S := hG.2.2.2.2.1
  have hw : tn_w T < gx_n X := hG.2.2.2.2.2
  have hL := hT.1
  have hw6 := hT.2.1
  have hu := tn_u_lt hT
  have hX6 := hX.2.1
  have hP6 := hP.1
  have hnb := tn_nb_bits hT
  have h128 : 2 ^ tn_L T ≤ 128 := Nat.pow_le_pow_right (n := 2) (by omega) hL
  have hnb7 : tn_nb T < 128 := by omega
  by_cases c1 : gs_rm T S s = 0
  · obtain ⟨s, hs4, rfl, hn1, hz⟩ := gs_rm_0 c1
    by_cases c2 : tn_in q 0 1 = true
    · obtain ⟨q, hq, rfl⟩ := tn_in_of (n := 1) (by decide) c2
      obtain ⟨os, ls, eP, eo⟩ := pm_first (tn_nb T) hnb7
      have ebl : bl 7 (tn_nb T) = tn_ul T := by rw [← bl_7 hL hnb.1]; exact ul_bl hT
      obtain ⟨hch, hel⟩ := pm_good (tn_nb T) hnb7
      have hmany := pm_many 7 (bl 7 (tn_nb T)) (bl_len _)
      rw [eP] at hch hel hmany
      have helL : ∀ o ∈ os :: ls, ∀ l ∈ o, l < tn_L T := fun o ho l hl => bit_lt hnb.1 ((hel o ho).2 l hl).2
      rw [List.length_cons] at hmany
      have h30 : (2 : Nat) ^ (3 * 7) < 2 ^ 30 := by decide
      have hwl := wv_lt (co T (tn_u T) 0 (S.2.2 s)) (tn_L T) (tn_nb T) hL 0
      have hpm : os :: ls = pm 7 (tn_ul T) := by rw [← ebl]; exact eP.symm
      by_cases cB : ff (fun l => Nat.testBit (tn_u T) l && !decide (S.2.2 s l = tn_cv T l)) (tn_L T) 0 = -1
      · obtain ⟨g1, g2⟩ := cp_cong (A := pm 7 (tn_ul T)) (ps_B hT cB)
        have ew : wv (co T (tn_u T) 0 (S.2.2 s)) (tn_L T) (tn_nb T) 0 = cp (fo (co T (tn_u T) 0 (S.2.2 s)) 0) (pm 7 (tn_ul T)) := by rw [wv, sd_r0 hnb7, ul_bl hT]
        have ef : fv (co T (tn_u T) 0 (S.2.2 s)) (tn_L T) (tn_nb T) 0 = fs (fo (co T (tn_u T) 0 (S.2.2 s)) 0) (pm 7 (tn_ul T)) := by rw [fv, sd_r0 hnb7, ul_bl hT]
        have eR : (if q = 0 then nI (cp (ps T (S.2.2 s)) (os :: ls)) else gF (ps T (S.2.2 s)) (os :: ls) 0 (-1)) = (if q = 0 then nI (wv (co T (tn_u T) 0 (S.2.2 s)) (tn_L T) (tn_nb T) 0) else fvI (fv (co T (tn_u T) 0 (S.2.2 s)) (tn_L T) (tn_nb T) 0)) := by
          rw [hpm, g1, ew, ef]
          unfold gF
          rw [if_pos rfl, g2]
          rfl
        refine J.u (.int (if q = 0 then nI (cp (ps T (S.2.2 s)) (os :: ls)) else gF (ps T (S.2.2 s)) (os :: ls) 0 (-1))) (T, X, P, Im, S) hG (fun σ hC => ?_) (fun σ hM => ?_)
        · have h : TR σ 9 18 T := hC.1
          obtain ⟨σ', hO, hF, h25, hs1⟩ := c_countOrders_p hT hs4 (base := tn_u T) (out := 0) (rest := tn_nb T) hu (by decide) hnb.1 (S.2.2 s) h (fun q hq => (hC.2.2.2.2 s hs4).2.2 q (by omega))
          rw [eR]
          refine ⟨σ', ?_, CG.aux hG hC (hs1.wid (by omega) (by omega)), hs1.wid (by omega) (by omega)⟩
          refine Ok.of (ls := [some (.ref 54), some (.int (nI s)), some (.int (nI q)), none, none]) (Nat.le_of_ble_eq_true rfl) rfl ?_
          refine ex_aload_n dX8_plans_0 rfl rfl ?_
          refine ex_iload_n dX8_plans_1 rfl rfl ?_
          refine ex_callV (a := 54) (rest := []) dX8_plans_2 rfl qp_7_240 rfl rfl rfl rfl rfl (Nat.le_of_ble_eq_true rfl) ((by have z := c_refusalOfMap hG hC (nI s); rw [c1] at z; exact z)) (Nat.le_of_ble_eq_true rfl) ?_
          show Ex qm_lay _ mX8_plans 5 [some (.ref 54), some (.int (nI s)), some (.int (nI q)), none, none] [.int 0] σ _ _
          refine ex_istore_n (ls' := [some (.ref 54), some (.int (nI s)), some (.int (nI q)), some (.int 0), none]) dX8_plans_5 rfl (Nat.le_of_ble_eq_true rfl) rfl rfl ?_
          refine ex_iload_n dX8_plans_6 rfl rfl ?_
          refine ex_if_eq (q := 12) (q2 := 10) dX8_plans_7 rfl rfl (fun _ => ?_) (fun hh => absurd (by decide) hh)
          refine ex_iload_n dX8_plans_12 rfl rfl ?_
          refine ex_if_lt (q := 21) (q2 := 16) dX8_plans_13 rfl rfl (fun hh => absurd hh (nI_pos (by omega))) (fun _ => ?_)
          refine ex_iload_n dX8_plans_16 rfl rfl ?_
          refine ex_iconst (x := 1) dX8_plans_17 rfl rfl ?_
          refine ex_icmp_le (q := 24) (q2 := 21) dX8_plans_18 rfl rfl (fun _ => ?_) (fun hh => absurd (nI_le (a := q) (b := 1) (by omega) (by omega)) hh)
          refine ex_aload_n dX8_plans_24 rfl rfl ?_
          refine ex_iload_n dX8_plans_25 rfl rfl ?_
          refine ex_aload_n dX8_plans_26 rfl rfl ?_
          refine ex_getR (b := 22) dX8_plans_27 rfl qp_7_10 rfl rfl ?_
          refine ex_getI (s := 12) (x := nI (tn_u T)) dX8_plans_30 rfl qp_7_65 rfl rfl (h.2.2.2.1) ?_
          refine ex_callV (a := 54) (rest := []) dX8_plans_33 rfl qp_7_243 rfl rfl rfl rfl rfl (Nat.le_of_ble_eq_true rfl) (c_firstOtherwise hT hS h hC.2.2.2.2 hs4 hu hz) (Nat.le_of_ble_eq_true rfl) ?_
          show Ex qm_lay _ mX8_plans 36 [some (.ref 54), some (.int (nI s)), some (.int (nI q)), some (.int 0), none] [.int (ff (fun l => Nat.testBit (tn_u T) l && !decide (S.2.2 s l = tn_cv T l)) (tn_L T) 0)] σ _ _
          refine ex_iconst (x := (-1)) dX8_plans_36 rfl rfl ?_
          refine ex_icmp_eq (q := 50) (q2 := 40) dX8_plans_37 rfl rfl (fun _ => ?_) (fun hh => absurd (cB) hh)
          refine ex_aload_n dX8_plans_50 rfl rfl ?_
          refine ex_getR (b := 51) dX8_plans_51 rfl qp_7_57 rfl rfl ?_
          refine ex_aload_n dX8_plans_54 rfl rfl ?_
          refine ex_getR (b := 22) dX8_plans_55 rfl qp_7_10 rfl rfl ?_
          refine ex_aload_n dX8_plans_58 rfl rfl ?_
          refine ex_getR (b := 22) dX8_plans_59 rfl qp_7_10 rfl rfl ?_
          refine ex_getI (s := 12) (x := nI (tn_u T)) dX8_plans_62 rfl qp_7_65 rfl rfl (h.2.2.2.1) ?_
          refine ex_aload_n dX8_plans_65 rfl rfl ?_
          refine ex_getR (b := 22) dX8_plans_66 rfl qp_7_10 rfl rfl ?_
          refine ex_callV (a := 22) (rest := [.int (nI (tn_u T)), .ref 22, .ref 51]) dX8_plans_69 rfl qp_7_190 rfl rfl rfl rfl rfl (Nat.le_of_ble_eq_true rfl) (c_unbuiltBits_0 hT h) (Nat.le_of_ble_eq_true rfl) ?_
          show Ex qm_lay _ mX8_plans 72 [some (.ref 54), some (.int (nI s)), some (.int (nI q)), some (.int 0), none] [.int (nI (tn_nb T)), .int (nI (tn_u T)), .ref 22, .ref 51] σ _ _
          refine ex_aload_n dX8_plans_72 rfl rfl ?_
          refine ex_getR (b := 40) dX8_plans_73 rfl qp_7_36 rfl rfl ?_
          refine ex_getR (b := 41) dX8_plans_76 rfl qp_7_252 rfl rfl ?_
          refine ex_iload_n dX8_plans_79 rfl rfl ?_
          refine ex_aaload (k := s) (r := 44 + s) dX8_plans_80 rfl rfl (rfl) (by omega) (by decide) rfl ?_
          refine ex_iconst (x := 0) dX8_plans_81 rfl rfl ?_
          refine ex_callV (a := 51) (rest := []) dX8_plans_82 rfl qp_7_233 rfl rfl rfl rfl rfl (Nat.le_of_ble_eq_true rfl) (hO) (Nat.le_of_ble_eq_true rfl) ?_
          show Ex qm_lay _ mX8_plans 85 [some (.ref 54), some (.int (nI s)), some (.int (nI q)), some (.int 0), none] [.int (nI (wv (co T (tn_u T) 0 (S.2.2 s)) (tn_L T) (tn_nb T) 0))] σ' _ _
          refine ex_istore (ls' := [some (.ref 54), some (.int (nI s)), some (.int (nI q)), some (.int 0), some (.int (nI (wv (co T (tn_u T) 0 (S.2.2 s)) (tn_L T) (tn_nb T) 0)))]) dX8_plans_85 rfl (Nat.le_of_ble_eq_true rfl) rfl rfl ?_
          refine ex_iload_n dX8_plans_87 rfl rfl ?_
          refine ex_if_ne (q := 96) (q2 := 91) dX8_plans_88 rfl rfl (fun h88 => ?_) (fun h88 => ?_)
          · have hq0 : ¬ q = 0 := fun z => h88 (congrArg nI z)
            refine ex_aload_n dX8_plans_96 rfl rfl ?_
            refine ex_getR (b := 51) dX8_plans_97 rfl qp_7_57 rfl rfl ?_
            refine ex_callV (a := 51) (rest := []) dX8_plans_100 rfl qp_7_237 rfl rfl rfl rfl rfl (Nat.le_of_ble_eq_true rfl) (c_firstOrder hL hnb.1 hF h25) (Nat.le_of_ble_eq_true rfl) ?_
            show Ex qm_lay _ mX8_plans 103 [some (.ref 54), some (.int (nI s)), some (.int (nI q)), some (.int 0), some (.int (nI (wv (co T (tn_u T) 0 (S.2.2 s)) (tn_L T) (tn_nb T) 0)))] [.int (fvI (fv (co T (tn_u T) 0 (S.2.2 s)) (tn_L T) (tn_nb T) 0))] σ' _ _
            exact ex_iret dX8_plans_103 rfl (by first | rw [if_neg hq0] | rw [if_pos hq0]) rfl
          · have hq0 : q = 0 := (nI_eq (b := 0) (by omega) (by decide)).mp (Decidable.not_not.mp h88)
            refine ex_iload dX8_plans_91 rfl rfl ?_
            refine ex_goto (q := 103) dX8_plans_93 rfl ?_
            exact ex_iret dX8_plans_103 rfl (by first | rw [if_neg hq0] | rw [if_pos hq0]) rfl
        · have h : MR σ T := hM.1
          obtain ⟨σ1, hO1, hR1, hs1⟩ := k_begins hT h hnb7
          rw [bl_7 hL hnb.1, ← eo] at hR1
          obtain ⟨σ2, hE, hM2, hs2⟩ := l_plansM hG hs4 hq ls os 0 (-1) σ1 hch helL (by omega) (MG.aux hM (hs1.wid (by omega) (by omega))) hR1
          rw [Nat.zero_add] at hE
          refine ⟨σ2, ?_, hM2, (hs1.wid (by omega) (by omega)).tr hs2⟩
          refine Ok.of (ls := [some (.ref 55), some (.int (nI s)), some (.int (nI q)), none, none, none, none]) (Nat.le_of_ble_eq_true rfl) rfl ?_
          refine ex_aload_n dX9_plans_0 rfl rfl ?_
          refine ex_iload_n dX9_plans_1 rfl rfl ?_
          refine ex_callV (a := 55) (rest := []) dX9_plans_2 rfl qp_8_287 rfl rfl rfl rfl rfl (Nat.le_of_ble_eq_true rfl) ((by have z := k_sheetWrong hG hM (nI s); rw [c1] at z; exact z)) (Nat.le_of_ble_eq_true rfl) ?_
          show Ex qm_lay _ mX9_plans 5 [some (.ref 55), some (.int (nI s)), some (.int (nI q)), none, none, none, none] [.int 0] σ _ _
          refine ex_istore_n (ls' := [some (.ref 55), some (.int (nI s)), some (.int (nI q)), some (.int 0), none, none, none]) dX9_plans_5 rfl (Nat.le_of_ble_eq_true rfl) rfl rfl ?_
          refine ex_iload_n dX9_plans_6 rfl rfl ?_
          refine ex_if_eq (q := 12) (q2 := 10) dX9_plans_7 rfl rfl (fun _ => ?_) (fun hh => absurd (by decide) hh)
          refine ex_iload_n dX9_plans_12 rfl rfl ?_
          refine ex_iconst (x := 0) dX9_plans_13 rfl rfl ?_
          refine ex_iconst (x := 1) dX9_plans_14 rfl rfl ?_
          refine ex_callS (rest := []) dX9_plans_15 rfl qp_8_81 rfl rfl rfl (Nat.le_of_ble_eq_true rfl) (k_in _ _ _ _) (Nat.le_of_ble_eq_true rfl) ?_
          show Ex qm_lay _ mX9_plans 18 [some (.ref 55), some (.int (nI s)), some (.int (nI q)), some (.int 0), none, none, none] [.int (b2i (tn_in (nI q) 0 1))] σ _ _
          refine ex_if_ne (q := 24) (q2 := 21) dX9_plans_18 rfl rfl (fun _ => ?_) (fun hh => absurd (b2i_n0.mpr (c2)) hh)
          refine ex_aload_n dX9_plans_24 rfl rfl ?_
          refine ex_aload_n dX9_plans_25 rfl rfl ?_
          refine ex_callV (a := 55) (rest := [.ref 55]) dX9_plans_26 rfl qp_8_244 rfl rfl rfl rfl rfl (Nat.le_of_ble_eq_true rfl) (k_notBuilt hT h) (Nat.le_of_ble_eq_true rfl) ?_
          show Ex qm_lay _ mX9_plans 29 [some (.ref 55), some (.int (nI s)), some (.int (nI q)), some (.int 0), none, none, none] [.int (nI (tn_nb T)), .ref 55] σ _ _
          refine ex_callV (a := 55) (rest := []) dX9_plans_29 rfl qp_8_247 rfl rfl rfl rfl rfl (Nat.le_of_ble_eq_true rfl) (hO1) (Nat.le_of_ble_eq_true rfl) ?_
          show Ex qm_lay _ mX9_plans 32 [some (.ref 55), some (.int (nI s)), some (.int (nI q)), some (.int 0), none, none, none] [] σ1 _ _
          refine ex_iconst (x := 0) dX9_plans_32 rfl rfl ?_
          refine ex_istore (ls' := [some (.ref 55), some (.int (nI s)), some (.int (nI q)), some (.int 0), some (.int 0), none, none]) dX9_plans_33 rfl (Nat.le_of_ble_eq_true rfl) rfl rfl ?_
          refine ex_iconst (x := (-1)) dX9_plans_35 rfl rfl ?_
          refine ex_istore (ls' := [some (.ref 55), some (.int (nI s)), some (.int (nI q)), some (.int 0), some (.int 0), some (.int (-1)), none]) dX9_plans_36 rfl (Nat.le_of_ble_eq_true rfl) rfl rfl ?_
          refine ex_iconst (x := 1) dX9_plans_38 rfl rfl ?_
          refine ex_istore (ls' := [some (.ref 55), some (.int (nI s)), some (.int (nI q)), some (.int 0), some (.int 0), some (.int (-1)), some (.int 1)]) dX9_plans_39 rfl (Nat.le_of_ble_eq_true rfl) rfl rfl ?_
          exact hE
      · obtain ⟨g1, g2⟩ := cp_none (A := pm 7 (tn_ul T)) (ps_N hT cB)
        have eR : (if q = 0 then nI (cp (ps T (S.2.2 s)) (os :: ls)) else gF (ps T (S.2.2 s)) (os :: ls) 0 (-1)) = (if q = 0 then 0 else -1) := by
          rw [hpm, g1]
          unfold gF
          rw [if_pos rfl, g2]
          rfl
        refine J.u (.int (if q = 0 then nI (cp (ps T (S.2.2 s)) (os :: ls)) else gF (ps T (S.2.2 s)) (os :: ls) 0 (-1))) (T, X, P, Im, S) hG (fun σ hC => ?_) (fun σ hM => ?_)
        · have h : TR σ 9 18 T := hC.1
          rw [eR]
          refine ⟨σ, ?_, hC, sm.rf _ _ _ _ _⟩
          refine Ok.of (ls := [some (.ref 54), some (.int (nI s)), some (.int (nI q)), none, none]) (Nat.le_of_ble_eq_true rfl) rfl ?_
          refine ex_aload_n dX8_plans_0 rfl rfl ?_
          refine ex_iload_n dX8_plans_1 rfl rfl ?_
          refine ex_callV (a := 54) (rest := []) dX8_plans_2 rfl qp_7_240 rfl rfl rfl rfl rfl (Nat.le_of_ble_eq_true rfl) ((by have z := c_refusalOfMap hG hC (nI s); rw [c1] at z; exact z)) (Nat.le_of_ble_eq_true rfl) ?_
          show Ex qm_lay _ mX8_plans 5 [some (.ref 54), some (.int (nI s)), some (.int (nI q)), none, none] [.int 0] σ _ _
          refine ex_istore_n (ls' := [some (.ref 54), some (.int (nI s)), some (.int (nI q)), some (.int 0), none]) dX8_plans_5 rfl (Nat.le_of_ble_eq_true rfl) rfl rfl ?_
          refine ex_iload_n dX8_plans_6 rfl rfl ?_
          refine ex_if_eq (q := 12) (q2 := 10) dX8_plans_7 rfl rfl (fun _ => ?_) (fun hh => absurd (by decide) hh)
          refine ex_iload_n dX8_plans_12 rfl rfl ?_
          refine ex_if_lt (q := 21) (q2 := 16) dX8_plans_13 rfl rfl (fun hh => absurd hh (nI_pos (by omega))) (fun _ => ?_)
          refine ex_iload_n dX8_plans_16 rfl rfl ?_
          refine ex_iconst (x := 1) dX8_plans_17 rfl rfl ?_
          refine ex_icmp_le (q := 24) (q2 := 21) dX8_plans_18 rfl rfl (fun _ => ?_) (fun hh => absurd (nI_le (a := q) (b := 1) (by omega) (by omega)) hh)
          refine ex_aload_n dX8_plans_24 rfl rfl ?_
          refine ex_iload_n dX8_plans_25 rfl rfl ?_
          refine ex_aload_n dX8_plans_26 rfl rfl ?_
          refine ex_getR (b := 22) dX8_plans_27 rfl qp_7_10 rfl rfl ?_
          refine ex_getI (s := 12) (x := nI (tn_u T)) dX8_plans_30 rfl qp_7_65 rfl rfl (h.2.2.2.1) ?_
          refine ex_callV (a := 54) (rest := []) dX8_plans_33 rfl qp_7_243 rfl rfl rfl rfl rfl (Nat.le_of_ble_eq_true rfl) (c_firstOtherwise hT hS h hC.2.2.2.2 hs4 hu hz) (Nat.le_of_ble_eq_true rfl) ?_
          show Ex qm_lay _ mX8_plans 36 [some (.ref 54), some (.int (nI s)), some (.int (nI q)), some (.int 0), none] [.int (ff (fun l => Nat.testBit (tn_u T) l && !decide (S.2.2 s l = tn_cv T l)) (tn_L T) 0)] σ _ _
          refine ex_iconst (x := (-1)) dX8_plans_36 rfl rfl ?_
          refine ex_icmp_eq (q := 50) (q2 := 40) dX8_plans_37 rfl rfl (fun hh => absurd hh (cB)) (fun _ => ?_)
          refine ex_iload_n dX8_plans_40 rfl rfl ?_
          refine ex_if_ne (q := 48) (q2 := 44) dX8_plans_41 rfl rfl (fun h41 => ?_) (fun h41 => ?_)
          · have hq0 : ¬ q = 0 := fun z => h41 (congrArg nI z)
            refine ex_iconst (x := (-1)) dX8_plans_48 rfl rfl ?_
            exact ex_iret dX8_plans_49 rfl (by first | rw [if_neg hq0] | rw [if_pos hq0]) rfl
          · have hq0 : q = 0 := (nI_eq (b := 0) (by omega) (by decide)).mp (Decidable.not_not.mp h41)
            refine ex_iconst (x := 0) dX8_plans_44 rfl rfl ?_
            refine ex_goto (q := 49) dX8_plans_45 rfl ?_
            exact ex_iret dX8_plans_49 rfl (by first | rw [if_neg hq0] | rw [if_pos hq0]) rfl
        · have h : MR σ T := hM.1
          obtain ⟨σ1, hO1, hR1, hs1⟩ := k_begins hT h hnb7
          rw [bl_7 hL hnb.1, ← eo] at hR1
          obtain ⟨σ2, hE, hM2, hs2⟩ := l_plansM hG hs4 hq ls os 0 (-1) σ1 hch helL (by omega) (MG.aux hM (hs1.wid (by omega) (by omega))) hR1
          rw [Nat.zero_add] at hE
          refine ⟨σ2, ?_, hM2, (hs1.wid (by omega) (by omega)).tr hs2⟩
          refine Ok.of (ls := [some (.ref 55), some (.int (nI s)), some (.int (nI q)), none, none, none, none]) (Nat.le_of_ble_eq_true rfl) rfl ?_
          refine ex_aload_n dX9_plans_0 rfl rfl ?_
          refine ex_iload_n dX9_plans_1 rfl rfl ?_
          refine ex_callV (a := 55) (rest := []) dX9_plans_2 rfl qp_8_287 rfl rfl rfl rfl rfl (Nat.le_of_ble_eq_true rfl) ((by have z := k_sheetWrong hG hM (nI s); rw [c1] at z; exact z)) (Nat.le_of_ble_eq_true rfl) ?_
          show Ex qm_lay _ mX9_plans 5 [some (.ref 55), some (.int (nI s)), some (.int (nI q)), none, none, none, none] [.int 0] σ _ _
          refine ex_istore_n (ls' := [some (.ref 55), some (.int (nI s)), some (.int (nI q)), some (.int 0), none, none, none]) dX9_plans_5 rfl (Nat.le_of_ble_eq_true rfl) rfl rfl ?_
          refine ex_iload_n dX9_plans_6 rfl rfl ?_
          refine ex_if_eq (q := 12) (q2 := 10) dX9_plans_7 rfl rfl (fun _ => ?_) (fun hh => absurd (by decide) hh)
          refine ex_iload_n dX9_plans_12 rfl rfl ?_
          refine ex_iconst (x := 0) dX9_plans_13 rfl rfl ?_
          refine ex_iconst (x := 1) dX9_plans_14 rfl rfl ?_
          refine ex_callS (rest := []) dX9_plans_15 rfl qp_8_81 rfl rfl rfl (Nat.le_of_ble_eq_true rfl) (k_in _ _ _ _) (Nat.le_of_ble_eq_true rfl) ?_
          show Ex qm_lay _ mX9_plans 18 [some (.ref 55), some (.int (nI s)), some (.int (nI q)), some (.int 0), none, none, none] [.int (b2i (tn_in (nI q) 0 1))] σ _ _
          refine ex_if_ne (q := 24) (q2 := 21) dX9_plans_18 rfl rfl (fun _ => ?_) (fun hh => absurd (b2i_n0.mpr (c2)) hh)
          refine ex_aload_n dX9_plans_24 rfl rfl ?_
          refine ex_aload_n dX9_plans_25 rfl rfl ?_
          refine ex_callV (a := 55) (rest := [.ref 55]) dX9_plans_26 rfl qp_8_244 rfl rfl rfl rfl rfl (Nat.le_of_ble_eq_true rfl) (k_notBuilt hT h) (Nat.le_of_ble_eq_true rfl) ?_
          show Ex qm_lay _ mX9_plans 29 [some (.ref 55), some (.int (nI s)), some (.int (nI q)), some (.int 0), none, none, none] [.int (nI (tn_nb T)), .ref 55] σ _ _
          refine ex_callV (a := 55) (rest := []) dX9_plans_29 rfl qp_8_247 rfl rfl rfl rfl rfl (Nat.le_of_ble_eq_true rfl) (hO1) (Nat.le_of_ble_eq_true rfl) ?_
          show Ex qm_lay _ mX9_plans 32 [some (.ref 55), some (.int (nI s)), some (.int (nI q)), some (.int 0), none, none, none] [] σ1 _ _
          refine ex_iconst (x := 0) dX9_plans_32 rfl rfl ?_
          refine ex_istore (ls' := [some (.ref 55), some (.int (nI s)), some (.int (nI q)), some (.int 0), some (.int 0), none, none]) dX9_plans_33 rfl (Nat.le_of_ble_eq_true rfl) rfl rfl ?_
          refine ex_iconst (x := (-1)) dX9_plans_35 rfl rfl ?_
          refine ex_istore (ls' := [some (.ref 55), some (.int (nI s)), some (.int (nI q)), some (.int 0), some (.int 0), some (.int (-1)), none]) dX9_plans_36 rfl (Nat.le_of_ble_eq_true rfl) rfl rfl ?_
          refine ex_iconst (x := 1) dX9_plans_38 rfl rfl ?_
          refine ex_istore (ls' := [some (.ref 55), some (.int (nI s)), some (.int (nI q)), some (.int 0), some (.int 0), some (.int (-1)), some (.int 1)]) dX9_plans_39 rfl (Nat.le_of_ble_eq_true rfl) rfl rfl ?_
          exact hE
    · refine J.q hG (.int (-7)) (fun σ hC => ?_) (fun σ hM => ?_)
      · have h : TR σ 9 18 T := hC.1
        refine Ok.of (ls := [some (.ref 54), some (.int (nI s)), some (.int q), none, none]) (Nat.le_of_ble_eq_true rfl) rfl ?_
        refine ex_aload_n dX8_plans_0 rfl rfl ?_
        refine ex_iload_n dX8_plans_1 rfl rfl ?_
        refine ex_callV (a := 54) (rest := []) dX8_plans_2 rfl qp_7_240 rfl rfl rfl rfl rfl (Nat.le_of_ble_eq_true rfl) ((by have z := c_refusalOfMap hG hC (nI s); rw [c1] at z; exact z)) (Nat.le_of_ble_eq_true rfl) ?_
        show Ex qm_lay _ mX8_plans 5 [some (.ref 54), some (.int (nI s)), some (.int q), none, none] [.int 0] σ _ _
        refine ex_istore_n (ls' := [some (.ref 54), some (.int (nI s)), some (.int q), some (.int 0), none]) dX8_plans_5 rfl (Nat.le_of_ble_eq_true rfl) rfl rfl ?_
        refine ex_iload_n dX8_plans_6 rfl rfl ?_
        refine ex_if_eq (q := 12) (q2 := 10) dX8_plans_7 rfl rfl (fun _ => ?_) (fun hh => absurd (by decide) hh)
        refine ex_iload_n dX8_plans_12 rfl rfl ?_
        refine ex_if_lt (q := 21) (q2 := 16) dX8_plans_13 rfl rfl (fun h13 => ?_) (fun h13 => ?_)
        · refine ex_bipush (x := (-7)) dX8_plans_21 rfl rfl ?_
          exact ex_iret dX8_plans_23 rfl rfl rfl
        · refine ex_iload_n dX8_plans_16 rfl rfl ?_
          refine ex_iconst (x := 1) dX8_plans_17 rfl rfl ?_
          refine ex_icmp_le (q := 24) (q2 := 21) dX8_plans_18 rfl rfl (fun h18 => ?_) (fun h18 => ?_)
          · exact absurd (decide_eq_true ⟨Int32.not_lt.mp h13, h18⟩) c2
          · refine ex_bipush (x := (-7)) dX8_plans_21 rfl rfl ?_
            exact ex_iret dX8_plans_23 rfl rfl rfl
      · have h : MR σ T := hM.1
        refine Ok.of (ls := [some (.ref 55), some (.int (nI s)), some (.int q), none, none, none, none]) (Nat.le_of_ble_eq_true rfl) rfl ?_
        refine ex_aload_n dX9_plans_0 rfl rfl ?_
        refine ex_iload_n dX9_plans_1 rfl rfl ?_
        refine ex_callV (a := 55) (rest := []) dX9_plans_2 rfl qp_8_287 rfl rfl rfl rfl rfl (Nat.le_of_ble_eq_true rfl) ((by have z := k_sheetWrong hG hM (nI s); rw [c1] at z; exact z)) (Nat.le_of_ble_eq_true rfl) ?_
        show Ex qm_lay _ mX9_plans 5 [some (.ref 55), some (.int (nI s)), some (.int q), none, none, none, none] [.int 0] σ _ _
        refine ex_istore_n (ls' := [some (.ref 55), some (.int (nI s)), some (.int q), some (.int 0), none, none, none]) dX9_plans_5 rfl (Nat.le_of_ble_eq_true rfl) rfl rfl ?_
        refine ex_iload_n dX9_plans_6 rfl rfl ?_
        refine ex_if_eq (q := 12) (q2 := 10) dX9_plans_7 rfl rfl (fun _ => ?_) (fun hh => absurd (by decide) hh)
        refine ex_iload_n dX9_plans_12 rfl rfl ?_
        refine ex_iconst (x := 0) dX9_plans_13 rfl rfl ?_
        refine ex_iconst (x := 1) dX9_plans_14 rfl rfl ?_
        refine ex_callS (rest := []) dX9_plans_15 rfl qp_8_81 rfl rfl rfl (Nat.le_of_ble_eq_true rfl) (k_in _ _ _ _) (Nat.le_of_ble_eq_true rfl) ?_
        show Ex qm_lay _ mX9_plans 18 [some (.ref 55), some (.int (nI s)), some (.int q), some (.int 0), none, none, none] [.int (b2i (tn_in q 0 1))] σ _ _
        refine ex_if_ne (q := 24) (q2 := 21) dX9_plans_18 rfl rfl (fun hh => absurd hh (fun zz => zz (b2i_0.mpr (by simpa using c2)))) (fun _ => ?_)
        refine ex_bipush (x := (-7)) dX9_plans_21 rfl rfl ?_
        exact ex_iret dX9_plans_23 rfl rfl rfl
  · refine J.q hG (.int (gs_rm T S s)) (fun σ hC => ?_) (fun σ hM => ?_)
    · have h : TR σ 9 18 T := hC.1
      refine Ok.of (ls := [some (.ref 54), some (.int s), some (.int q), none, none]) (Nat.le_of_ble_eq_true rfl) rfl ?_
      refine ex_aload_n dX8_plans_0 rfl rfl ?_
      refine ex_iload_n dX8_plans_1 rfl rfl ?_
      refine ex_callV (a := 54) (rest := []) dX8_plans_2 rfl qp_7_240 rfl rfl rfl rfl rfl (Nat.le_of_ble_eq_true rfl) (c_refusalOfMap hG hC s) (Nat.le_of_ble_eq_true rfl) ?_
      show Ex qm_lay _ mX8_plans 5 [some (.ref 54), some (.int s), some (.int q), none, none] [.int (gs_rm T S s)] σ _ _
      refine ex_istore_n (ls' := [some (.ref 54), some (.int s), some (.int q), some (.int (gs_rm T S s)), none]) dX8_plans_5 rfl (Nat.le_of_ble_eq_true rfl) rfl rfl ?_
      refine ex_iload_n dX8_plans_6 rfl rfl ?_
      refine ex_if_eq (q := 12) (q2 := 10) dX8_plans_7 rfl rfl (fun hh => absurd hh (c1)) (fun _ => ?_)
      refine ex_iload_n dX8_plans_10 rfl rfl ?_
      exact ex_iret dX8_plans_11 rfl rfl rfl
    · have h : MR σ T := hM.1
      refine Ok.of (ls := [some (.ref 55), some (.int s), some (.int q), none, none, none, none]) (Nat.le_of_ble_eq_true rfl) rfl ?_
      refine ex_aload_n dX9_plans_0 rfl rfl ?_
      refine ex_iload_n dX9_plans_1 rfl rfl ?_
      refine ex_callV (a := 55) (rest := []) dX9_plans_2 rfl qp_8_287 rfl rfl rfl rfl rfl (Nat.le_of_ble_eq_true rfl) (k_sheetWrong hG hM s) (Nat.le_of_ble_eq_true rfl) ?_
      show Ex qm_lay _ mX9_plans 5 [some (.ref 55), some (.int s), some (.int q), none, none, none, none] [.int (gs_rm T S s)] σ _ _
      refine ex_istore_n (ls' := [some (.ref 55), some (.int s), some (.int q), some (.int (gs_rm T S s)), none, none, none]) dX9_plans_5 rfl (Nat.le_of_ble_eq_true rfl) rfl rfl ?_
      refine ex_iload_n dX9_plans_6 rfl rfl ?_
      refine ex_if_eq (q := 12) (q2 := 10) dX9_plans_7 rfl rfl (fun hh => absurd hh (c1)) (fun _ => ?_)
      refine ex_iload_n dX9_plans_10 rfl rfl ?_
      exact ex_iret dX9_plans_11 rfl rfl rfl

