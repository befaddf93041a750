/-- as JV, d calls deep -/
def JVd (d : Nat) (mC mM : qm_MI) (as : List Value) (G : gg_T) (r : Value) (G' : gg_T) : Prop :=
  gg_ok G' ∧ (∀ σ, CG σ G → ∃ σ', Ok qm_lay d mC (.ref 54 :: as) σ (some r) σ' ∧ CG σ' G' ∧ sm σ σ' 0 27 0 42) ∧
  (∀ σ, MG σ G → ∃ σ', Ok qm_lay d mM (.ref 55 :: as) σ (some r) σ' ∧ MG σ' G' ∧ sm σ σ' 27 46 42 62)
theorem JVd.up {d : Nat} {mC mM : qm_MI} {as : List Value} {G G' : gg_T} {r : Value} (h : JVd d mC mM as G r G') (hd : d ≤ 100) : JV mC mM as G r G' :=
  ⟨h.1, fun σ hC => (h.2.1 σ hC).elim fun σ' z => ⟨σ', z.1.mono hd, z.2⟩, fun σ hM => (h.2.2 σ hM).elim fun σ' z => ⟨σ', z.1.mono hd, z.2⟩⟩
theorem SCcp {σ : qm_St} {S : gs_T} (h : SC σ S) {s a o b n : Nat} (hs : s < 4) (ho : o < 4) (h1 : a + n ≤ 40) (h2 : b + n ≤ 40) : SC (qm_wR σ (35 + o) (va_cpy (σ.2 (35 + s)) (σ.2 (35 + o)) a b n)) (gs_cp S s a o b n) := by
  intro q hq
  obtain ⟨g1, g2, g3⟩ := h q hq
  refine ⟨by rw [rF_wR, if_neg (by omega)]; exact g1, by rw [rF_wR, if_neg (by omega)]; exact g2, fun i hi => ?_⟩
  rw [rF_wR]
  show _ = if q = o ∧ b ≤ i ∧ i < b + n then S.2.2 s (a + (i - b)) else S.2.2 q i
  by_cases e : q = o
  · subst e
    rw [if_pos rfl]
    by_cases g : b ≤ i ∧ i < b + n
    · rw [if_pos ⟨rfl, g⟩, pk_cpy_in g.1 g.2]
      exact (h s hs).2.2 (a + (i - b)) (by omega)
    · rw [if_neg (fun z => g z.2), pk_cpy_out (by omega)]
      exact g3 i hi
  · rw [if_neg (by omega), if_neg (fun z => e z.1)]
    exact g3 i hi
theorem SMcp {σ σ' : qm_St} {S : gs_T} (h : SM σ S) {s a o b n : Nat} (hs : s < 4) (ho : o < 4) (h1 : a + n ≤ 40) (h2 : b + n ≤ 40) (g : sm σ σ' 36 36 53 54) (hq : ∀ p, qm_rF σ' 53 p = if 40 * o + b ≤ p ∧ p < 40 * o + b + n then qm_rF σ 53 (40 * s + a + (p - (40 * o + b))) else qm_rF σ 53 p) : SM σ' (gs_cp S s a o b n) := by
  intro q hq4
  obtain ⟨g1, g2, g3⟩ := h q hq4
  refine ⟨by rw [g.2 _ (by omega)]; exact g1, by rw [g.2 _ (by omega)]; exact g2, fun i hi => ?_⟩
  rw [hq]
  show _ = if q = o ∧ b ≤ i ∧ i < b + n then S.2.2 s (a + (i - b)) else S.2.2 q i
  by_cases e : q = o ∧ b ≤ i ∧ i < b + n
  · obtain ⟨rfl, e1, e2⟩ := e
    rw [if_pos (by omega), if_pos ⟨rfl, e1, e2⟩, show 40 * s + a + (40 * q + i - (40 * q + b)) = 40 * s + (a + (i - b)) by omega]
    exact (h s hs).2.2 (a + (i - b)) (by omega)
  · rw [if_neg e, if_neg (by omega)]
    exact g3 i hi
/-- the cells while a stretch is moved -/
def cpQ (σ σ1 : qm_St) (A B lo hi : Nat) : Prop := ∀ p, qm_rF σ1 53 p = if lo ≤ p ∧ p < hi then qm_rF σ 53 (A + (p - B)) else qm_rF σ 53 p
theorem cpQ.st {σ σ1 : qm_St} {A B lo hi x lo' hi' : Nat} (h : cpQ σ σ1 A B lo hi) (hx : A + x < lo ∨ hi ≤ A + x) (h2 : ∀ p, (lo' ≤ p ∧ p < hi') ↔ (p = B + x ∨ (lo ≤ p ∧ p < hi))) : cpQ σ (qm_wF σ1 53 (B + x) (qm_rF σ1 53 (A + x))) A B lo' hi' := by
  intro p
  by_cases e : p = B + x
  · subst e
    rw [rF_eq, if_pos ((h2 _).mpr (Or.inl rfl)), h, if_neg (by omega), Nat.add_sub_cancel_left]
  · rw [rF_ne (Or.inr e), h]
    by_cases g : lo ≤ p ∧ p < hi
    · rw [if_pos g, if_pos ((h2 p).mpr (Or.inr g))]
    · rw [if_neg g, if_neg (fun z => ((h2 p).mp z).elim e g)]
theorem MRadd {σ σ' : qm_St} {T : tn_T} (hT : tn_ok T) (h : MR σ T) {x y z : Nat} (hz : z < 2 ^ tn_L T) (hs : sm (qm_wF (qm_wF (qm_wF (qm_wF (qm_wF σ 42 (tn_L T) (nI x)) 43 (tn_L T) (nI y)) 45 (tn_L T) (-1)) 46 (tn_L T) (-1)) 44 (tn_L T) (nI z)) σ' 28 28 44 45)
    (h0 : qm_rF σ' 44 (tn_L T) = nI z) (hq : ∀ q, q < tn_L T → qm_rF σ' 44 q = nI (tn_b (tn_add T x y z) q)) : MR (qm_wI σ' 27 (nI (tn_L T + 1))) (tn_add T x y z) := by
  have hnb : (tn_u T).testBit (tn_L T) = false := Nat.testBit_lt_two_pow hT.2.2.1
  refine ⟨⟨rfl, ?_, fun l hl => ?_⟩, ?_, fun l hl => ?_⟩
  · rw [rI_wI, if_neg (by decide), hs.1 _ (by omega)]; exact h.1.2.1
  · have hl' : l < tn_L T + 1 := hl
    rw [rF_wI, rF_wI, hs.2 _ (by omega), hs.2 _ (by omega)]
    show _ = nI (if l = tn_L T then x else tn_k T l) ∧ _ = nI (if l = tn_L T then y else tn_m T l)
    by_cases e : l = tn_L T
    · rw [if_pos e, if_pos e, e]
      exact ⟨by rw [rF_ne (by omega), rF_ne (by omega), rF_ne (by omega), rF_ne (by omega), rF_eq], by rw [rF_ne (by omega), rF_ne (by omega), rF_ne (by omega), rF_eq]⟩
    · rw [if_neg e, if_neg e]
      exact ⟨by rw [rF_ne (by omega), rF_ne (by omega), rF_ne (by omega), rF_ne (by omega), rF_ne (Or.inr e)]; exact MR.kk h (by omega), by rw [rF_ne (by omega), rF_ne (by omega), rF_ne (by omega), rF_ne (Or.inr e), rF_ne (by omega)]; exact MR.mm h (by omega)⟩
  · rw [rI_wI, if_neg (by decide), hs.1 _ (by omega)]; exact h.2.1
  · have hl' : l < tn_L T + 1 := hl
    rw [rF_wI, rF_wI, rF_wI, hs.2 45 (by omega), hs.2 46 (by omega)]
    by_cases e : l = tn_L T
    · subst e
      refine ⟨?_, ?_, ?_⟩
      · rw [h0]
        show nI z = nI (tn_b (tn_adk T x y z (tn_L T)) (tn_L T))
        rw [tn_adk_b, if_pos rfl, Nat.mod_eq_of_lt hz]
      · rw [rF_ne (by omega), rF_ne (by omega), rF_eq]
        show (-1 : Int32) = if (tn_u T).testBit (tn_L T) = true then _ else -1
        rw [hnb]; rfl
      · rw [rF_ne (by omega), rF_eq]
        show (-1 : Int32) = if (tn_u T).testBit (tn_L T) = true then _ else -1
        rw [hnb]; rfl
    · exact ⟨hq l (by omega), by rw [rF_ne (by omega), rF_ne (by omega), rF_ne (Or.inr e), rF_ne (by omega), rF_ne (by omega)]; exact MR.cc h (by omega), by rw [rF_ne (by omega), rF_ne (Or.inr e), rF_ne (by omega), rF_ne (by omega), rF_ne (by omega)]; exact MR.ss h (by omega)⟩
theorem tn_cl_id : ∀ z, z < 7 → ∀ u, u < 128 → u.testBit z = false → tn_cl u z = u := by decide +kernel
theorem tn_adk_hi {T : tn_T} {x y z k : Nat} (hk : k < tn_L T) : tn_b (tn_adk T x y z k) k = tn_b T k := by rw [tn_adk_b, if_neg (by omega), if_neg (fun h => absurd h.1 (Nat.lt_irrefl k))]
theorem MG.lots {σ σ' : qm_St} {T T' : tn_T} {X : gx_T} {P : gt_T} {Im : gi_T} {S : gs_T} (h : MG σ (T, X, P, Im, S)) (hT : MR σ' T') (g : sm σ σ' 27 29 42 47) : MG σ' (T', X, P, Im, S) := MG.town (G := (T, X, P, Im, S)) h hT g

set_option maxHeartbeats 2000000 in
theorem l_copyB {σ : qm_St} {s a o b n : Nat} (hs : s < 4) (ho : o < 4) (h1 : a + n ≤ 40) (h2 : b + n ≤ 40) (hab : (40 * s) + a < (40 * o) + b) : ∀ (r k : Nat) (x : Option Value) (hx : qm_free [some (.ref 55), some (.int (nI s)), some (.int (nI a)), some (.int (nI o)), some (.int (nI b)), some (.int (nI n)), some (.int (nI ((40 * s) + a))), some (.int (nI ((40 * o) + b))), some (.int (nI k)), x] 9 = true) (σ1 : qm_St), k + r = n → sm σ σ1 36 36 53 54 → cpQ σ σ1 ((40 * s) + a) ((40 * o) + b) ((40 * o) + b + (n - k)) ((40 * o) + b + n) → ∃ σ', Ex qm_lay 100 mX9_copy 147 [some (.ref 55), some (.int (nI s)), some (.int (nI a)), some (.int (nI o)), some (.int (nI b)), some (.int (nI n)), some (.int (nI ((40 * s) + a))), some (.int (nI ((40 * o) + b))), some (.int (nI k)), x] [] σ1 (some (.int (nI n))) σ' ∧ sm σ σ' 36 36 53 54 ∧ cpQ σ σ' ((40 * s) + a) ((40 * o) + b) ((40 * o) + b) ((40 * o) + b + n) := by
  intro r
  induction r with
  | zero =>
    intro k x hx σ1 hk hs1 hq
    have ek : k = n := by omega
    refine ⟨σ1, ?_, hs1, by rw [ek] at hq; rw [Nat.sub_self, Nat.add_zero] at hq; exact hq⟩
    refine ex_iload dX9_copy_147 rfl rfl ?_
    refine ex_iload dX9_copy_149 rfl rfl ?_
    refine ex_icmp_ge (q := 201) (q2 := 154) dX9_copy_151 rfl rfl (fun _ => ?_) (fun hh => absurd (nI_le (by omega) (by omega)) hh)
    refine ex_iload dX9_copy_201 rfl rfl ?_
    exact ex_iret dX9_copy_203 rfl rfl rfl
  | succ r ih =>
    intro k x hx σ1 hk hs1 hq
    obtain ⟨σ', hE, hs2, hq2⟩ := ih (k + 1) (some (.int (nI (n - 1 - k)))) rfl _ (by omega) (hs1.wF (j := 53) (i := (40 * o) + b + (n - 1 - k)) (qm_rF σ1 53 ((40 * s) + a + (n - 1 - k))) (by omega)) (hq.st (x := n - 1 - k) (Or.inl (by omega)) (fun p => by omega))
    refine ⟨σ', ?_, hs2, hq2⟩
    refine ex_iload dX9_copy_147 rfl rfl ?_
    refine ex_iload dX9_copy_149 rfl rfl ?_
    refine ex_icmp_ge (q := 201) (q2 := 154) dX9_copy_151 rfl rfl (fun hh => absurd hh (nI_ge (by omega) (by omega))) (fun _ => ?_)
    refine ex_iload dX9_copy_154 rfl rfl ?_
    refine ex_iload dX9_copy_156 rfl rfl ?_
    refine ex_icmp_ge (q := 171) (q2 := 161) dX9_copy_158 rfl rfl (fun hh => absurd hh (nI_ge (a := ((40 * s) + a)) (b := ((40 * o) + b)) (by omega) (by omega))) (fun _ => ?_)
    refine ex_iload dX9_copy_161 rfl rfl ?_
    refine ex_iconst (x := 1) dX9_copy_163 rfl rfl ?_
    refine ex_isub (z := nI (n - 1)) dX9_copy_164 rfl (pk_sub (b := 1) (by omega)) ?_
    refine ex_iload dX9_copy_165 rfl rfl ?_
    refine ex_isub (z := nI (n - 1 - k)) dX9_copy_167 rfl (pk_sub (by omega)) ?_
    refine ex_goto (q := 173) dX9_copy_168 rfl ?_
    refine ex_istore (ls' := [some (.ref 55), some (.int (nI s)), some (.int (nI a)), some (.int (nI o)), some (.int (nI b)), some (.int (nI n)), some (.int (nI ((40 * s) + a))), some (.int (nI ((40 * o) + b))), some (.int (nI k)), some (.int (nI (n - 1 - k)))]) dX9_copy_173 rfl (Nat.le_of_ble_eq_true rfl) rfl rfl ?_
    refine ex_aload_n dX9_copy_175 rfl rfl ?_
    refine ex_getR (b := 67) dX9_copy_176 rfl qp_8_43 rfl rfl ?_
    refine ex_iload dX9_copy_179 rfl rfl ?_
    refine ex_iload dX9_copy_181 rfl rfl ?_
    refine ex_iadd (z := nI (((40 * o) + b) + (n - 1 - k))) dX9_copy_183 rfl (nI_add ((40 * o) + b) (n - 1 - k)) ?_
    refine ex_aload_n dX9_copy_184 rfl rfl ?_
    refine ex_getR (b := 67) dX9_copy_185 rfl qp_8_43 rfl rfl ?_
    refine ex_iload dX9_copy_188 rfl rfl ?_
    refine ex_iload dX9_copy_190 rfl rfl ?_
    refine ex_iadd (z := nI (((40 * s) + a) + (n - 1 - k))) dX9_copy_192 rfl (nI_add ((40 * s) + a) (n - 1 - k)) ?_
    refine ex_iaload (k := ((40 * s) + a) + (n - 1 - k)) (x := qm_rF σ1 53 (((40 * s) + a) + (n - 1 - k))) dX9_copy_193 rfl rfl (rfl) (by omega) (by decide) (rfl) ?_
    refine ex_iastore (k := ((40 * o) + b) + (n - 1 - k)) (σ' := qm_wF σ1 53 (((40 * o) + b) + (n - 1 - k)) (qm_rF σ1 53 (((40 * s) + a) + (n - 1 - k)))) dX9_copy_194 rfl rfl (rfl) (by omega) (by decide) rfl ?_
    refine ex_iinc (y := nI (k + 1)) (ls' := [some (.ref 55), some (.int (nI s)), some (.int (nI a)), some (.int (nI o)), some (.int (nI b)), some (.int (nI n)), some (.int (nI ((40 * s) + a))), some (.int (nI ((40 * o) + b))), some (.int (nI (k + 1))), some (.int (nI (n - 1 - k)))]) dX9_copy_195 rfl rfl rfl (nI_add k 1) rfl ?_
    refine ex_goto (q := 147) dX9_copy_198 rfl ?_
    exact hE

set_option maxHeartbeats 2000000 in
theorem l_copyF {σ : qm_St} {s a o b n : Nat} (hs : s < 4) (ho : o < 4) (h1 : a + n ≤ 40) (h2 : b + n ≤ 40) (hab : (40 * o) + b ≤ (40 * s) + a) : ∀ (r k : Nat) (x : Option Value) (hx : qm_free [some (.ref 55), some (.int (nI s)), some (.int (nI a)), some (.int (nI o)), some (.int (nI b)), some (.int (nI n)), some (.int (nI ((40 * s) + a))), some (.int (nI ((40 * o) + b))), some (.int (nI k)), x] 9 = true) (σ1 : qm_St), k + r = n → sm σ σ1 36 36 53 54 → cpQ σ σ1 ((40 * s) + a) ((40 * o) + b) ((40 * o) + b) ((40 * o) + b + k) → ∃ σ', Ex qm_lay 100 mX9_copy 147 [some (.ref 55), some (.int (nI s)), some (.int (nI a)), some (.int (nI o)), some (.int (nI b)), some (.int (nI n)), some (.int (nI ((40 * s) + a))), some (.int (nI ((40 * o) + b))), some (.int (nI k)), x] [] σ1 (some (.int (nI n))) σ' ∧ sm σ σ' 36 36 53 54 ∧ cpQ σ σ' ((40 * s) + a) ((40 * o) + b) ((40 * o) + b) ((40 * o) + b + n) := by
  intro r
  induction r with
  | zero =>
    intro k x hx σ1 hk hs1 hq
    have ek : k = n := by omega
    refine ⟨σ1, ?_, hs1, by rw [ek] at hq; exact hq⟩
    refine ex_iload dX9_copy_147 rfl rfl ?_
    refine ex_iload dX9_copy_149 rfl rfl ?_
    refine ex_icmp_ge (q := 201) (q2 := 154) dX9_copy_151 rfl rfl (fun _ => ?_) (fun hh => absurd (nI_le (by omega) (by omega)) hh)
    refine ex_iload dX9_copy_201 rfl rfl ?_
    exact ex_iret dX9_copy_203 rfl rfl rfl
  | succ r ih =>
    intro k x hx σ1 hk hs1 hq
    obtain ⟨σ', hE, hs2, hq2⟩ := ih (k + 1) (some (.int (nI (k)))) rfl _ (by omega) (hs1.wF (j := 53) (i := (40 * o) + b + (k)) (qm_rF σ1 53 ((40 * s) + a + (k))) (by omega)) (hq.st (x := k) (Or.inr (by omega)) (fun p => by omega))
    refine ⟨σ', ?_, hs2, hq2⟩
    refine ex_iload dX9_copy_147 rfl rfl ?_
    refine ex_iload dX9_copy_149 rfl rfl ?_
    refine ex_icmp_ge (q := 201) (q2 := 154) dX9_copy_151 rfl rfl (fun hh => absurd hh (nI_ge (by omega) (by omega))) (fun _ => ?_)
    refine ex_iload dX9_copy_154 rfl rfl ?_
    refine ex_iload dX9_copy_156 rfl rfl ?_
    refine ex_icmp_ge (q := 171) (q2 := 161) dX9_copy_158 rfl rfl (fun _ => ?_) (fun hh => absurd (nI_le (a := ((40 * o) + b)) (b := ((40 * s) + a)) (by omega) (by omega)) hh)
    refine ex_iload dX9_copy_171 rfl rfl ?_
    refine ex_istore (ls' := [some (.ref 55), some (.int (nI s)), some (.int (nI a)), some (.int (nI o)), some (.int (nI b)), some (.int (nI n)), some (.int (nI ((40 * s) + a))), some (.int (nI ((40 * o) + b))), some (.int (nI k)), some (.int (nI k))]) dX9_copy_173 rfl (Nat.le_of_ble_eq_true rfl) rfl rfl ?_
    refine ex_aload_n dX9_copy_175 rfl rfl ?_
    refine ex_getR (b := 67) dX9_copy_176 rfl qp_8_43 rfl rfl ?_
    refine ex_iload dX9_copy_179 rfl rfl ?_
    refine ex_iload dX9_copy_181 rfl rfl ?_
    refine ex_iadd (z := nI (((40 * o) + b) + k)) dX9_copy_183 rfl (nI_add ((40 * o) + b) k) ?_
    refine ex_aload_n dX9_copy_184 rfl rfl ?_
    refine ex_getR (b := 67) dX9_copy_185 rfl qp_8_43 rfl rfl ?_
    refine ex_iload dX9_copy_188 rfl rfl ?_
    refine ex_iload dX9_copy_190 rfl rfl ?_
    refine ex_iadd (z := nI (((40 * s) + a) + k)) dX9_copy_192 rfl (nI_add ((40 * s) + a) k) ?_
    refine ex_iaload (k := ((40 * s) + a) + k) (x := qm_rF σ1 53 (((40 * s) + a) + k)) dX9_copy_193 rfl rfl (rfl) (by omega) (by decide) (rfl) ?_
    refine ex_iastore (k := ((40 * o) + b) + k) (σ' := qm_wF σ1 53 (((40 * o) + b) + k) (qm_rF σ1 53 (((40 * s) + a) + k))) dX9_copy_194 rfl rfl (rfl) (by omega) (by decide) rfl ?_
    refine ex_iinc (y := nI (k + 1)) (ls' := [some (.ref 55), some (.int (nI s)), some (.int (nI a)), some (.int (nI o)), some (.int (nI b)), some (.int (nI n)), some (.int (nI ((40 * s) + a))), some (.int (nI ((40 * o) + b))), some (.int (nI (k + 1))), some (.int (nI k))]) dX9_copy_195 rfl rfl rfl (nI_add k 1) rfl ?_
    refine ex_goto (q := 147) dX9_copy_198 rfl ?_
    exact hE

set_option maxHeartbeats 2000000 in
theorem j_copy {T : tn_T} {X : gx_T} {P : gt_T} {Im : gi_T} {S : gs_T} (hG : gg_ok (T, X, P, Im, S)) (s i o j n : Int32) : J mX8_copy mX9_copy [.int s, .int i, .int o, .int j, .int n] (T, X, P, Im, S) := by
  have hT : tn_ok T := hG.1
  have hX : gx_ok X := hG.2.1
  have hP : gt_ok P := hG.2.2.1
  have hI : gi_ok T (gx_n X) Im := hG.2.2.2.1
  have hS : gs_ok S := hG.2.2.2.2.1
  have hw : tn_w T < gx_n X := hG.2.2.2.2.2
  have hL := hT.1
  have hw6 := hT.2.1
  have hu := tn_u_lt hT
  have hX6 := hX.2.1
  have hP6 := hP.1
  by_cases c1 : tn_in s 0 3 = true
  · by_cases c2 : tn_in o 0 3 = true
    · obtain ⟨s, hs, rfl⟩ := tn_in_of (n := 3) (by decide) c1
      obtain ⟨o, ho, rfl⟩ := tn_in_of (n := 3) (by decide) c2
      have hs4 : s < 4 := by omega
      have ho4 : o < 4 := by omega
      have h40 := (hS s hs4).2
      have h41 := (hS o ho4).2
      by_cases c3 : S.1 s = -1
      · refine J.q hG (.int (-11)) (fun σ hC => ?_) (fun σ hM => ?_)
        · have h : TR σ 9 18 T := hC.1
          refine Ok.of (ls := [some (.ref 54), some (.int (nI s)), some (.int i), some (.int (nI o)), some (.int j), some (.int n)]) (Nat.le_of_ble_eq_true rfl) rfl ?_
          refine ex_iload_n dX8_copy_0 rfl rfl ?_
          refine ex_callS (rest := []) dX8_copy_1 rfl qp_7_201 rfl rfl rfl (Nat.le_of_ble_eq_true rfl) (c_isSheet _ _) (Nat.le_of_ble_eq_true rfl) ?_
          show Ex qm_lay _ mX8_copy 4 [some (.ref 54), some (.int (nI s)), some (.int i), some (.int (nI o)), some (.int j), some (.int n)] [.int (b2i (tn_in (nI s) 0 3))] σ _ _
          refine ex_if_eq (q := 14) (q2 := 7) dX8_copy_4 rfl rfl (fun hh => absurd hh (b2i_n0.mpr (c1))) (fun _ => ?_)
          refine ex_iload_n dX8_copy_7 rfl rfl ?_
          refine ex_callS (rest := []) dX8_copy_8 rfl qp_7_201 rfl rfl rfl (Nat.le_of_ble_eq_true rfl) (c_isSheet _ _) (Nat.le_of_ble_eq_true rfl) ?_
          show Ex qm_lay _ mX8_copy 11 [some (.ref 54), some (.int (nI s)), some (.int i), some (.int (nI o)), some (.int j), some (.int n)] [.int (b2i (tn_in (nI o) 0 3))] σ _ _
          refine ex_if_ne (q := 17) (q2 := 14) dX8_copy_11 rfl rfl (fun _ => ?_) (fun hh => absurd (b2i_n0.mpr (c2)) hh)
          refine ex_aload_n dX8_copy_17 rfl rfl ?_
          refine ex_getR (b := 40) dX8_copy_18 rfl qp_7_36 rfl rfl ?_
          refine ex_iload_n dX8_copy_21 rfl rfl ?_
          refine ex_callV (a := 40) (rest := []) dX8_copy_22 rfl qp_7_204 rfl rfl rfl rfl rfl (Nat.le_of_ble_eq_true rfl) (c_isMissing hS hC.2.2.2.2 (by omega)) (Nat.le_of_ble_eq_true rfl) ?_
          show Ex qm_lay _ mX8_copy 25 [some (.ref 54), some (.int (nI s)), some (.int i), some (.int (nI o)), some (.int j), some (.int n)] [.int (b2i (decide (S.1 s = -1)))] σ _ _
          refine ex_if_ne (q := 39) (q2 := 28) dX8_copy_25 rfl rfl (fun _ => ?_) (fun hh => absurd (b2i_n0.mpr (decide_eq_true c3)) hh)
          refine ex_bipush (x := (-11)) dX8_copy_39 rfl rfl ?_
          exact ex_iret dX8_copy_41 rfl rfl rfl
        · have h : MR σ T := hM.1
          refine Ok.of (ls := [some (.ref 55), some (.int (nI s)), some (.int i), some (.int (nI o)), some (.int j), some (.int n), none, none, none, none]) (Nat.le_of_ble_eq_true rfl) rfl ?_
          refine ex_iload_n dX9_copy_0 rfl rfl ?_
          refine ex_iconst (x := 0) dX9_copy_1 rfl rfl ?_
          refine ex_iconst (x := 3) dX9_copy_2 rfl rfl ?_
          refine ex_callS (rest := []) dX9_copy_3 rfl qp_8_81 rfl rfl rfl (Nat.le_of_ble_eq_true rfl) (k_in _ _ _ _) (Nat.le_of_ble_eq_true rfl) ?_
          show Ex qm_lay _ mX9_copy 6 [some (.ref 55), some (.int (nI s)), some (.int i), some (.int (nI o)), some (.int j), some (.int n), none, none, none, none] [.int (b2i (tn_in (nI s) 0 3))] σ _ _
          refine ex_if_eq (q := 18) (q2 := 9) dX9_copy_6 rfl rfl (fun hh => absurd hh (b2i_n0.mpr (c1))) (fun _ => ?_)
          refine ex_iload_n dX9_copy_9 rfl rfl ?_
          refine ex_iconst (x := 0) dX9_copy_10 rfl rfl ?_
          refine ex_iconst (x := 3) dX9_copy_11 rfl rfl ?_
          refine ex_callS (rest := []) dX9_copy_12 rfl qp_8_81 rfl rfl rfl (Nat.le_of_ble_eq_true rfl) (k_in _ _ _ _) (Nat.le_of_ble_eq_true rfl) ?_
          show Ex qm_lay _ mX9_copy 15 [some (.ref 55), some (.int (nI s)), some (.int i), some (.int (nI o)), some (.int j), some (.int n), none, none, none, none] [.int (b2i (tn_in (nI o) 0 3))] σ _ _
          refine ex_if_ne (q := 21) (q2 := 18) dX9_copy_15 rfl rfl (fun _ => ?_) (fun hh => absurd (b2i_n0.mpr (c2)) hh)
          refine ex_aload_n dX9_copy_21 rfl rfl ?_
          refine ex_getR (b := 65) dX9_copy_22 rfl qp_8_37 rfl rfl ?_
          refine ex_iload_n dX9_copy_25 rfl rfl ?_
          refine ex_iaload (k := s) (x := S.1 s) dX9_copy_26 rfl rfl (rfl) (by omega) (by decide) ((hM.2.2.2.2.1 s (by omega)).1) ?_
          refine ex_iconst (x := (-1)) dX9_copy_27 rfl rfl ?_
          refine ex_icmp_eq (q := 41) (q2 := 31) dX9_copy_28 rfl rfl (fun _ => ?_) (fun hh => absurd (c3) hh)
          refine ex_bipush (x := (-11)) dX9_copy_41 rfl rfl ?_
          exact ex_iret dX9_copy_43 rfl rfl rfl
      · by_cases c4 : S.1 o = -1
        · refine J.q hG (.int (-11)) (fun σ hC => ?_) (fun σ hM => ?_)
          · have h : TR σ 9 18 T := hC.1
            refine Ok.of (ls := [some (.ref 54), some (.int (nI s)), some (.int i), some (.int (nI o)), some (.int j), some (.int n)]) (Nat.le_of_ble_eq_true rfl) rfl ?_
            refine ex_iload_n dX8_copy_0 rfl rfl ?_
            refine ex_callS (rest := []) dX8_copy_1 rfl qp_7_201 rfl rfl rfl (Nat.le_of_ble_eq_true rfl) (c_isSheet _ _) (Nat.le_of_ble_eq_true rfl) ?_
            show Ex qm_lay _ mX8_copy 4 [some (.ref 54), some (.int (nI s)), some (.int i), some (.int (nI o)), some (.int j), some (.int n)] [.int (b2i (tn_in (nI s) 0 3))] σ _ _
            refine ex_if_eq (q := 14) (q2 := 7) dX8_copy_4 rfl rfl (fun hh => absurd hh (b2i_n0.mpr (c1))) (fun _ => ?_)
            refine ex_iload_n dX8_copy_7 rfl rfl ?_
            refine ex_callS (rest := []) dX8_copy_8 rfl qp_7_201 rfl rfl rfl (Nat.le_of_ble_eq_true rfl) (c_isSheet _ _) (Nat.le_of_ble_eq_true rfl) ?_
            show Ex qm_lay _ mX8_copy 11 [some (.ref 54), some (.int (nI s)), some (.int i), some (.int (nI o)), some (.int j), some (.int n)] [.int (b2i (tn_in (nI o) 0 3))] σ _ _
            refine ex_if_ne (q := 17) (q2 := 14) dX8_copy_11 rfl rfl (fun _ => ?_) (fun hh => absurd (b2i_n0.mpr (c2)) hh)
            refine ex_aload_n dX8_copy_17 rfl rfl ?_
            refine ex_getR (b := 40) dX8_copy_18 rfl qp_7_36 rfl rfl ?_
            refine ex_iload_n dX8_copy_21 rfl rfl ?_
            refine ex_callV (a := 40) (rest := []) dX8_copy_22 rfl qp_7_204 rfl rfl rfl rfl rfl (Nat.le_of_ble_eq_true rfl) (c_isMissing hS hC.2.2.2.2 (by omega)) (Nat.le_of_ble_eq_true rfl) ?_
            show Ex qm_lay _ mX8_copy 25 [some (.ref 54), some (.int (nI s)), some (.int i), some (.int (nI o)), some (.int j), some (.int n)] [.int (b2i (decide (S.1 s = -1)))] σ _ _
            refine ex_if_ne (q := 39) (q2 := 28) dX8_copy_25 rfl rfl (fun hh => absurd hh (fun zz => zz (b2i_0.mpr (decide_eq_false c3)))) (fun _ => ?_)
            refine ex_aload_n dX8_copy_28 rfl rfl ?_
            refine ex_getR (b := 40) dX8_copy_29 rfl qp_7_36 rfl rfl ?_
            refine ex_iload_n dX8_copy_32 rfl rfl ?_
            refine ex_callV (a := 40) (rest := []) dX8_copy_33 rfl qp_7_204 rfl rfl rfl rfl rfl (Nat.le_of_ble_eq_true rfl) (c_isMissing hS hC.2.2.2.2 (by omega)) (Nat.le_of_ble_eq_true rfl) ?_
            show Ex qm_lay _ mX8_copy 36 [some (.ref 54), some (.int (nI s)), some (.int i), some (.int (nI o)), some (.int j), some (.int n)] [.int (b2i (decide (S.1 o = -1)))] σ _ _
            refine ex_if_eq (q := 42) (q2 := 39) dX8_copy_36 rfl rfl (fun hh => absurd hh (b2i_n0.mpr (decide_eq_true c4))) (fun _ => ?_)
            refine ex_bipush (x := (-11)) dX8_copy_39 rfl rfl ?_
            exact ex_iret dX8_copy_41 rfl rfl rfl
          · have h : MR σ T := hM.1
            refine Ok.of (ls := [some (.ref 55), some (.int (nI s)), some (.int i), some (.int (nI o)), some (.int j), some (.int n), none, none, none, none]) (Nat.le_of_ble_eq_true rfl) rfl ?_
            refine ex_iload_n dX9_copy_0 rfl rfl ?_
            refine ex_iconst (x := 0) dX9_copy_1 rfl rfl ?_
            refine ex_iconst (x := 3) dX9_copy_2 rfl rfl ?_
            refine ex_callS (rest := []) dX9_copy_3 rfl qp_8_81 rfl rfl rfl (Nat.le_of_ble_eq_true rfl) (k_in _ _ _ _) (Nat.le_of_ble_eq_true rfl) ?_
            show Ex qm_lay _ mX9_copy 6 [some (.ref 55), some (.int (nI s)), some (.int i), some (.int (nI o)), some (.int j), some (.int n), none, none, none, none] [.int (b2i (tn_in (nI s) 0 3))] σ _ _
            refine ex_if_eq (q := 18) (q2 := 9) dX9_copy_6 rfl rfl (fun hh => absurd hh (b2i_n0.mpr (c1))) (fun _ => ?_)
            refine ex_iload_n dX9_copy_9 rfl rfl ?_
            refine ex_iconst (x := 0) dX9_copy_10 rfl rfl ?_
            refine ex_iconst (x := 3) dX9_copy_11 rfl rfl ?_
            refine ex_callS (rest := []) dX9_copy_12 rfl qp_8_81 rfl rfl rfl (Nat.le_of_ble_eq_true rfl) (k_in _ _ _ _) (Nat.le_of_ble_eq_true rfl) ?_
            show Ex qm_lay _ mX9_copy 15 [some (.ref 55), some (.int (nI s)), some (.int i), some (.int (nI o)), some (.int j), some (.int n), none, none, none, none] [.int (b2i (tn_in (nI o) 0 3))] σ _ _
            refine ex_if_ne (q := 21) (q2 := 18) dX9_copy_15 rfl rfl (fun _ => ?_) (fun hh => absurd (b2i_n0.mpr (c2)) hh)
            refine ex_aload_n dX9_copy_21 rfl rfl ?_
            refine ex_getR (b := 65) dX9_copy_22 rfl qp_8_37 rfl rfl ?_
            refine ex_iload_n dX9_copy_25 rfl rfl ?_
            refine ex_iaload (k := s) (x := S.1 s) dX9_copy_26 rfl rfl (rfl) (by omega) (by decide) ((hM.2.2.2.2.1 s (by omega)).1) ?_
            refine ex_iconst (x := (-1)) dX9_copy_27 rfl rfl ?_
            refine ex_icmp_eq (q := 41) (q2 := 31) dX9_copy_28 rfl rfl (fun hh => absurd hh (c3)) (fun _ => ?_)
            refine ex_aload_n dX9_copy_31 rfl rfl ?_
            refine ex_getR (b := 65) dX9_copy_32 rfl qp_8_37 rfl rfl ?_
            refine ex_iload_n dX9_copy_35 rfl rfl ?_
            refine ex_iaload (k := o) (x := S.1 o) dX9_copy_36 rfl rfl (rfl) (by omega) (by decide) ((hM.2.2.2.2.1 o (by omega)).1) ?_
            refine ex_iconst (x := (-1)) dX9_copy_37 rfl rfl ?_
            refine ex_icmp_ne (q := 44) (q2 := 41) dX9_copy_38 rfl rfl (fun hh => absurd hh (fun zz => zz c4)) (fun _ => ?_)
            refine ex_bipush (x := (-11)) dX9_copy_41 rfl rfl ?_
            exact ex_iret dX9_copy_43 rfl rfl rfl
        · by_cases c5 : S.1 s = S.1 o
          · by_cases c6 : ¬ n < 0 ∧ gs_hr (S.2.1 s) i n = true ∧ gs_hr (S.2.1 o) j n = true
            · obtain ⟨c7, c8, c9⟩ := c6
              obtain ⟨a, m, h1, rfl, rfl⟩ := gs_hr_of (by omega) c8 c7
              obtain ⟨b, m2, h2, rfl, e⟩ := gs_hr_of (by omega) c9 c7
              have em : m = m2 := (nI_eq (by omega) (by omega)).mp e
              subst em
              refine J.u (.int (nI m)) (T, X, P, Im, gs_cp S s a o b m) hG (fun σ hC => ?_) (fun σ hM => ?_)
              · have h : TR σ 9 18 T := hC.1
                have hg : sm σ (qm_wR σ (35 + o) (va_cpy (σ.2 (35 + s)) (σ.2 (35 + o)) a b m)) 25 25 33 39 := (sm.rf σ 25 25 33 39).wR _ (by omega)
                refine ⟨_, ?_, CG.sheets hX hC (SCcp hC.2.2.2.2 hs4 ho4 (by omega) (by omega)) hg, hg.wid (by omega) (by omega)⟩
                refine Ok.of (ls := [some (.ref 54), some (.int (nI s)), some (.int (nI a)), some (.int (nI o)), some (.int (nI b)), some (.int (nI m))]) (Nat.le_of_ble_eq_true rfl) rfl ?_
                refine ex_iload_n dX8_copy_0 rfl rfl ?_
                refine ex_callS (rest := []) dX8_copy_1 rfl qp_7_201 rfl rfl rfl (Nat.le_of_ble_eq_true rfl) (c_isSheet _ _) (Nat.le_of_ble_eq_true rfl) ?_
                show Ex qm_lay _ mX8_copy 4 [some (.ref 54), some (.int (nI s)), some (.int (nI a)), some (.int (nI o)), some (.int (nI b)), some (.int (nI m))] [.int (b2i (tn_in (nI s) 0 3))] σ _ _
                refine ex_if_eq (q := 14) (q2 := 7) dX8_copy_4 rfl rfl (fun hh => absurd hh (b2i_n0.mpr (c1))) (fun _ => ?_)
                refine ex_iload_n dX8_copy_7 rfl rfl ?_
                refine ex_callS (rest := []) dX8_copy_8 rfl qp_7_201 rfl rfl rfl (Nat.le_of_ble_eq_true rfl) (c_isSheet _ _) (Nat.le_of_ble_eq_true rfl) ?_
                show Ex qm_lay _ mX8_copy 11 [some (.ref 54), some (.int (nI s)), some (.int (nI a)), some (.int (nI o)), some (.int (nI b)), some (.int (nI m))] [.int (b2i (tn_in (nI o) 0 3))] σ _ _
                refine ex_if_ne (q := 17) (q2 := 14) dX8_copy_11 rfl rfl (fun _ => ?_) (fun hh => absurd (b2i_n0.mpr (c2)) hh)
                refine ex_aload_n dX8_copy_17 rfl rfl ?_
                refine ex_getR (b := 40) dX8_copy_18 rfl qp_7_36 rfl rfl ?_
                refine ex_iload_n dX8_copy_21 rfl rfl ?_
                refine ex_callV (a := 40) (rest := []) dX8_copy_22 rfl qp_7_204 rfl rfl rfl rfl rfl (Nat.le_of_ble_eq_true rfl) (c_isMissing hS hC.2.2.2.2 (by omega)) (Nat.le_of_ble_eq_true rfl) ?_
                show Ex qm_lay _ mX8_copy 25 [some (.ref 54), some (.int (nI s)), some (.int (nI a)), some (.int (nI o)), some (.int (nI b)), some (.int (nI m))] [.int (b2i (decide (S.1 s = -1)))] σ _ _
                refine ex_if_ne (q := 39) (q2 := 28) dX8_copy_25 rfl rfl (fun hh => absurd hh (fun zz => zz (b2i_0.mpr (decide_eq_false c3)))) (fun _ => ?_)
                refine ex_aload_n dX8_copy_28 rfl rfl ?_
                refine ex_getR (b := 40) dX8_copy_29 rfl qp_7_36 rfl rfl ?_
                refine ex_iload_n dX8_copy_32 rfl rfl ?_
                refine ex_callV (a := 40) (rest := []) dX8_copy_33 rfl qp_7_204 rfl rfl rfl rfl rfl (Nat.le_of_ble_eq_true rfl) (c_isMissing hS hC.2.2.2.2 (by omega)) (Nat.le_of_ble_eq_true rfl) ?_
                show Ex qm_lay _ mX8_copy 36 [some (.ref 54), some (.int (nI s)), some (.int (nI a)), some (.int (nI o)), some (.int (nI b)), some (.int (nI m))] [.int (b2i (decide (S.1 o = -1)))] σ _ _
                refine ex_if_eq (q := 42) (q2 := 39) dX8_copy_36 rfl rfl (fun _ => ?_) (fun hh => absurd (b2i_0.mpr (decide_eq_false c4)) hh)
                refine ex_aload_n dX8_copy_42 rfl rfl ?_
                refine ex_getR (b := 40) dX8_copy_43 rfl qp_7_36 rfl rfl ?_
                refine ex_getR (b := 43) dX8_copy_46 rfl qp_7_288 rfl rfl ?_
                refine ex_iload_n dX8_copy_49 rfl rfl ?_
                refine ex_iaload (k := s) (x := S.1 s) dX8_copy_50 rfl rfl (rfl) (by omega) (by decide) ((hC.2.2.2.2 s (by omega)).1) ?_
                refine ex_aload_n dX8_copy_51 rfl rfl ?_
                refine ex_getR (b := 40) dX8_copy_52 rfl qp_7_36 rfl rfl ?_
                refine ex_getR (b := 43) dX8_copy_55 rfl qp_7_288 rfl rfl ?_
                refine ex_iload_n dX8_copy_58 rfl rfl ?_
                refine ex_iaload (k := o) (x := S.1 o) dX8_copy_59 rfl rfl (rfl) (by omega) (by decide) ((hC.2.2.2.2 o (by omega)).1) ?_
                refine ex_icmp_eq (q := 66) (q2 := 63) dX8_copy_60 rfl rfl (fun _ => ?_) (fun hh => absurd (c5) hh)
                refine ex_iload dX8_copy_66 rfl rfl ?_
                refine ex_if_lt (q := 100) (q2 := 71) dX8_copy_68 rfl rfl (fun hh => absurd hh (nI_pos (by omega))) (fun _ => ?_)
                refine ex_aload_n dX8_copy_71 rfl rfl ?_
                refine ex_getR (b := 40) dX8_copy_72 rfl qp_7_36 rfl rfl ?_
                refine ex_iload_n dX8_copy_75 rfl rfl ?_
                refine ex_iload_n dX8_copy_76 rfl rfl ?_
                refine ex_iload dX8_copy_77 rfl rfl ?_
                refine ex_callV (a := 40) (rest := []) dX8_copy_79 rfl qp_7_291 rfl rfl rfl rfl rfl (Nat.le_of_ble_eq_true rfl) (c_hasRange hS hC.2.2.2.2 (by omega) _ _) (Nat.le_of_ble_eq_true rfl) ?_
                show Ex qm_lay _ mX8_copy 82 [some (.ref 54), some (.int (nI s)), some (.int (nI a)), some (.int (nI o)), some (.int (nI b)), some (.int (nI m))] [.int (b2i (gs_hr (S.2.1 s) (nI a) (nI m)))] σ _ _
                refine ex_if_eq (q := 100) (q2 := 85) dX8_copy_82 rfl rfl (fun hh => absurd hh (b2i_n0.mpr (c8))) (fun _ => ?_)
                refine ex_aload_n dX8_copy_85 rfl rfl ?_
                refine ex_getR (b := 40) dX8_copy_86 rfl qp_7_36 rfl rfl ?_
                refine ex_iload_n dX8_copy_89 rfl rfl ?_
                refine ex_iload dX8_copy_90 rfl rfl ?_
                refine ex_iload dX8_copy_92 rfl rfl ?_
                refine ex_callV (a := 40) (rest := []) dX8_copy_94 rfl qp_7_291 rfl rfl rfl rfl rfl (Nat.le_of_ble_eq_true rfl) (c_hasRange hS hC.2.2.2.2 (by omega) _ _) (Nat.le_of_ble_eq_true rfl) ?_
                show Ex qm_lay _ mX8_copy 97 [some (.ref 54), some (.int (nI s)), some (.int (nI a)), some (.int (nI o)), some (.int (nI b)), some (.int (nI m))] [.int (b2i (gs_hr (S.2.1 o) (nI b) (nI m)))] σ _ _
                refine ex_if_ne (q := 103) (q2 := 100) dX8_copy_97 rfl rfl (fun _ => ?_) (fun hh => absurd (b2i_n0.mpr (c9)) hh)
                refine ex_aload_n dX8_copy_103 rfl rfl ?_
                refine ex_getR (b := 40) dX8_copy_104 rfl qp_7_36 rfl rfl ?_
                refine ex_getR (b := 41) dX8_copy_107 rfl qp_7_252 rfl rfl ?_
                refine ex_iload_n dX8_copy_110 rfl rfl ?_
                refine ex_aaload (k := s) (r := 44 + s) dX8_copy_111 rfl rfl (rfl) (by omega) (by decide) rfl ?_
                refine ex_iload_n dX8_copy_112 rfl rfl ?_
                refine ex_aload_n dX8_copy_113 rfl rfl ?_
                refine ex_getR (b := 40) dX8_copy_114 rfl qp_7_36 rfl rfl ?_
                refine ex_getR (b := 41) dX8_copy_117 rfl qp_7_252 rfl rfl ?_
                refine ex_iload_n dX8_copy_120 rfl rfl ?_
                refine ex_aaload (k := o) (r := 44 + o) dX8_copy_121 rfl rfl (rfl) (by omega) (by decide) rfl ?_
                refine ex_iload dX8_copy_122 rfl rfl ?_
                refine ex_iload dX8_copy_124 rfl rfl ?_
                refine ex_copy (sk := a) (dk := b) (nk := m) (σ' := qm_wR σ (35 + o) (va_cpy (σ.2 (35 + s)) (σ.2 (35 + o)) a b m)) dX8_copy_126 rfl qp_7_294 (lay_sh hs4) (lay_sh ho4) (rfl) (rfl) (rfl) (by omega) (by omega) (by decide) rfl ?_
                refine ex_iload dX8_copy_129 rfl rfl ?_
                exact ex_iret dX8_copy_131 rfl rfl rfl
              · by_cases hab : (40 * s) + a < (40 * o) + b
                · have h : MR σ T := hM.1
                  obtain ⟨σ', hE, hs2, hq⟩ := l_copyB (σ := σ) (n := m) hs4 ho4 (a := a) (b := b) (by omega) (by omega) hab m 0 none rfl σ (by omega) (sm.rf _ _ _ _ _) (fun p => by rw [if_neg (by omega)])
                  have hsm : sm σ σ' 36 36 51 54 := hs2.wid (by omega) (by omega)
                  refine ⟨σ', ?_, MG.sheets hM (SMcp hM.2.2.2.2.1 hs4 ho4 (by omega) (by omega) hs2 hq) hsm, hsm.wid (by omega) (by omega)⟩
                  refine Ok.of (ls := [some (.ref 55), some (.int (nI s)), some (.int (nI a)), some (.int (nI o)), some (.int (nI b)), some (.int (nI m)), none, none, none, none]) (Nat.le_of_ble_eq_true rfl) rfl ?_
                  refine ex_iload_n dX9_copy_0 rfl rfl ?_
                  refine ex_iconst (x := 0) dX9_copy_1 rfl rfl ?_
                  refine ex_iconst (x := 3) dX9_copy_2 rfl rfl ?_
                  refine ex_callS (rest := []) dX9_copy_3 rfl qp_8_81 rfl rfl rfl (Nat.le_of_ble_eq_true rfl) (k_in _ _ _ _) (Nat.le_of_ble_eq_true rfl) ?_
                  show Ex qm_lay _ mX9_copy 6 [some (.ref 55), some (.int (nI s)), some (.int (nI a)), some (.int (nI o)), some (.int (nI b)), some (.int (nI m)), none, none, none, none] [.int (b2i (tn_in (nI s) 0 3))] σ _ _
                  refine ex_if_eq (q := 18) (q2 := 9) dX9_copy_6 rfl rfl (fun hh => absurd hh (b2i_n0.mpr (c1))) (fun _ => ?_)
                  refine ex_iload_n dX9_copy_9 rfl rfl ?_
                  refine ex_iconst (x := 0) dX9_copy_10 rfl rfl ?_
                  refine ex_iconst (x := 3) dX9_copy_11 rfl rfl ?_
                  refine ex_callS (rest := []) dX9_copy_12 rfl qp_8_81 rfl rfl rfl (Nat.le_of_ble_eq_true rfl) (k_in _ _ _ _) (Nat.le_of_ble_eq_true rfl) ?_
                  show Ex qm_lay _ mX9_copy 15 [some (.ref 55), some (.int (nI s)), some (.int (nI a)), some (.int (nI o)), some (.int (nI b)), some (.int (nI m)), none, none, none, none] [.int (b2i (tn_in (nI o) 0 3))] σ _ _
                  refine ex_if_ne (q := 21) (q2 := 18) dX9_copy_15 rfl rfl (fun _ => ?_) (fun hh => absurd (b2i_n0.mpr (c2)) hh)
                  refine ex_aload_n dX9_copy_21 rfl rfl ?_
                  refine ex_getR (b := 65) dX9_copy_22 rfl qp_8_37 rfl rfl ?_
                  refine ex_iload_n dX9_copy_25 rfl rfl ?_
                  refine ex_iaload (k := s) (x := S.1 s) dX9_copy_26 rfl rfl (rfl) (by omega) (by decide) ((hM.2.2.2.2.1 s (by omega)).1) ?_
                  refine ex_iconst (x := (-1)) dX9_copy_27 rfl rfl ?_
                  refine ex_icmp_eq (q := 41) (q2 := 31) dX9_copy_28 rfl rfl (fun hh => absurd hh (c3)) (fun _ => ?_)
                  refine ex_aload_n dX9_copy_31 rfl rfl ?_
                  refine ex_getR (b := 65) dX9_copy_32 rfl qp_8_37 rfl rfl ?_
                  refine ex_iload_n dX9_copy_35 rfl rfl ?_
                  refine ex_iaload (k := o) (x := S.1 o) dX9_copy_36 rfl rfl (rfl) (by omega) (by decide) ((hM.2.2.2.2.1 o (by omega)).1) ?_
                  refine ex_iconst (x := (-1)) dX9_copy_37 rfl rfl ?_
                  refine ex_icmp_ne (q := 44) (q2 := 41) dX9_copy_38 rfl rfl (fun _ => ?_) (fun hh => absurd (c4) hh)
                  refine ex_aload_n dX9_copy_44 rfl rfl ?_
                  refine ex_getR (b := 65) dX9_copy_45 rfl qp_8_37 rfl rfl ?_
                  refine ex_iload_n dX9_copy_48 rfl rfl ?_
                  refine ex_iaload (k := s) (x := S.1 s) dX9_copy_49 rfl rfl (rfl) (by omega) (by decide) ((hM.2.2.2.2.1 s (by omega)).1) ?_
                  refine ex_aload_n dX9_copy_50 rfl rfl ?_
                  refine ex_getR (b := 65) dX9_copy_51 rfl qp_8_37 rfl rfl ?_
                  refine ex_iload_n dX9_copy_54 rfl rfl ?_
                  refine ex_iaload (k := o) (x := S.1 o) dX9_copy_55 rfl rfl (rfl) (by omega) (by decide) ((hM.2.2.2.2.1 o (by omega)).1) ?_
                  refine ex_icmp_eq (q := 62) (q2 := 59) dX9_copy_56 rfl rfl (fun _ => ?_) (fun hh => absurd (c5) hh)
                  refine ex_iload dX9_copy_62 rfl rfl ?_
                  refine ex_if_lt (q := 124) (q2 := 67) dX9_copy_64 rfl rfl (fun hh => absurd hh (nI_pos (by omega))) (fun _ => ?_)
                  refine ex_iload_n dX9_copy_67 rfl rfl ?_
                  refine ex_if_lt (q := 124) (q2 := 71) dX9_copy_68 rfl rfl (fun hh => absurd hh (nI_pos (by omega))) (fun _ => ?_)
                  refine ex_iload dX9_copy_71 rfl rfl ?_
                  refine ex_if_lt (q := 124) (q2 := 76) dX9_copy_73 rfl rfl (fun hh => absurd hh (nI_pos (by omega))) (fun _ => ?_)
                  refine ex_iload_n dX9_copy_76 rfl rfl ?_
                  refine ex_aload_n dX9_copy_77 rfl rfl ?_
                  refine ex_getR (b := 66) dX9_copy_78 rfl qp_8_40 rfl rfl ?_
                  refine ex_iload_n dX9_copy_81 rfl rfl ?_
                  refine ex_iaload (k := s) (x := nI (S.2.1 s)) dX9_copy_82 rfl rfl (rfl) (by omega) (by decide) ((hM.2.2.2.2.1 s (by omega)).2.1) ?_
                  refine ex_icmp_gt (q := 124) (q2 := 86) dX9_copy_83 rfl rfl (fun hh => absurd hh (nI_nlt (a := (S.2.1 s)) (b := a) (by omega) (by omega))) (fun _ => ?_)
                  refine ex_iload dX9_copy_86 rfl rfl ?_
                  refine ex_aload_n dX9_copy_88 rfl rfl ?_
                  refine ex_getR (b := 66) dX9_copy_89 rfl qp_8_40 rfl rfl ?_
                  refine ex_iload_n dX9_copy_92 rfl rfl ?_
                  refine ex_iaload (k := o) (x := nI (S.2.1 o)) dX9_copy_93 rfl rfl (rfl) (by omega) (by decide) ((hM.2.2.2.2.1 o (by omega)).2.1) ?_
                  refine ex_icmp_gt (q := 124) (q2 := 97) dX9_copy_94 rfl rfl (fun hh => absurd hh (nI_nlt (a := (S.2.1 o)) (b := b) (by omega) (by omega))) (fun _ => ?_)
                  refine ex_iload dX9_copy_97 rfl rfl ?_
                  refine ex_aload_n dX9_copy_99 rfl rfl ?_
                  refine ex_getR (b := 66) dX9_copy_100 rfl qp_8_40 rfl rfl ?_
                  refine ex_iload_n dX9_copy_103 rfl rfl ?_
                  refine ex_iaload (k := s) (x := nI (S.2.1 s)) dX9_copy_104 rfl rfl (rfl) (by omega) (by decide) ((hM.2.2.2.2.1 s (by omega)).2.1) ?_
                  refine ex_iload_n dX9_copy_105 rfl rfl ?_
                  refine ex_isub (z := nI (S.2.1 s - a)) dX9_copy_106 rfl (pk_sub (by omega)) ?_
                  refine ex_icmp_gt (q := 124) (q2 := 110) dX9_copy_107 rfl rfl (fun hh => absurd hh (nI_nlt (a := (S.2.1 s - a)) (b := m) (by omega) (by omega))) (fun _ => ?_)
                  refine ex_iload dX9_copy_110 rfl rfl ?_
                  refine ex_aload_n dX9_copy_112 rfl rfl ?_
                  refine ex_getR (b := 66) dX9_copy_113 rfl qp_8_40 rfl rfl ?_
                  refine ex_iload_n dX9_copy_116 rfl rfl ?_
                  refine ex_iaload (k := o) (x := nI (S.2.1 o)) dX9_copy_117 rfl rfl (rfl) (by omega) (by decide) ((hM.2.2.2.2.1 o (by omega)).2.1) ?_
                  refine ex_iload dX9_copy_118 rfl rfl ?_
                  refine ex_isub (z := nI (S.2.1 o - b)) dX9_copy_120 rfl (pk_sub (by omega)) ?_
                  refine ex_icmp_le (q := 127) (q2 := 124) dX9_copy_121 rfl rfl (fun _ => ?_) (fun hh => absurd (nI_le (a := m) (b := (S.2.1 o - b)) (by omega) (by omega)) hh)
                  refine ex_bipush (x := 40) dX9_copy_127 rfl rfl ?_
                  refine ex_iload_n dX9_copy_129 rfl rfl ?_
                  refine ex_imul (z := nI (40 * s)) dX9_copy_130 rfl (pk_mul 40 s) ?_
                  refine ex_iload_n dX9_copy_131 rfl rfl ?_
                  refine ex_iadd (z := nI ((40 * s) + a)) dX9_copy_132 rfl (nI_add (40 * s) a) ?_
                  refine ex_istore (ls' := [some (.ref 55), some (.int (nI s)), some (.int (nI a)), some (.int (nI o)), some (.int (nI b)), some (.int (nI m)), some (.int (nI ((40 * s) + a))), none, none, none]) dX9_copy_133 rfl (Nat.le_of_ble_eq_true rfl) rfl rfl ?_
                  refine ex_bipush (x := 40) dX9_copy_135 rfl rfl ?_
                  refine ex_iload_n dX9_copy_137 rfl rfl ?_
                  refine ex_imul (z := nI (40 * o)) dX9_copy_138 rfl (pk_mul 40 o) ?_
                  refine ex_iload dX9_copy_139 rfl rfl ?_
                  refine ex_iadd (z := nI ((40 * o) + b)) dX9_copy_141 rfl (nI_add (40 * o) b) ?_
                  refine ex_istore (ls' := [some (.ref 55), some (.int (nI s)), some (.int (nI a)), some (.int (nI o)), some (.int (nI b)), some (.int (nI m)), some (.int (nI ((40 * s) + a))), some (.int (nI ((40 * o) + b))), none, none]) dX9_copy_142 rfl (Nat.le_of_ble_eq_true rfl) rfl rfl ?_
                  refine ex_iconst (x := 0) dX9_copy_144 rfl rfl ?_
                  refine ex_istore (ls' := [some (.ref 55), some (.int (nI s)), some (.int (nI a)), some (.int (nI o)), some (.int (nI b)), some (.int (nI m)), some (.int (nI ((40 * s) + a))), some (.int (nI ((40 * o) + b))), some (.int 0), none]) dX9_copy_145 rfl (Nat.le_of_ble_eq_true rfl) rfl rfl ?_
                  exact hE
                · have hab : (40 * o) + b ≤ (40 * s) + a := Nat.not_lt.mp hab
                  have h : MR σ T := hM.1
                  obtain ⟨σ', hE, hs2, hq⟩ := l_copyF (σ := σ) (n := m) hs4 ho4 (a := a) (b := b) (by omega) (by omega) hab m 0 none rfl σ (by omega) (sm.rf _ _ _ _ _) (fun p => by rw [if_neg (by omega)])
                  have hsm : sm σ σ' 36 36 51 54 := hs2.wid (by omega) (by omega)
                  refine ⟨σ', ?_, MG.sheets hM (SMcp hM.2.2.2.2.1 hs4 ho4 (by omega) (by omega) hs2 hq) hsm, hsm.wid (by omega) (by omega)⟩
                  refine Ok.of (ls := [some (.ref 55), some (.int (nI s)), some (.int (nI a)), some (.int (nI o)), some (.int (nI b)), some (.int (nI m)), none, none, none, none]) (Nat.le_of_ble_eq_true rfl) rfl ?_
                  refine ex_iload_n dX9_copy_0 rfl rfl ?_
                  refine ex_iconst (x := 0) dX9_copy_1 rfl rfl ?_
                  refine ex_iconst (x := 3) dX9_copy_2 rfl rfl ?_
                  refine ex_callS (rest := []) dX9_copy_3 rfl qp_8_81 rfl rfl rfl (Nat.le_of_ble_eq_true rfl) (k_in _ _ _ _) (Nat.le_of_ble_eq_true rfl) ?_
                  show Ex qm_lay _ mX9_copy 6 [some (.ref 55), some (.int (nI s)), some (.int (nI a)), some (.int (nI o)), some (.int (nI b)), some (.int (nI m)), none, none, none, none] [.int (b2i (tn_in (nI s) 0 3))] σ _ _
                  refine ex_if_eq (q := 18) (q2 := 9) dX9_copy_6 rfl rfl (fun hh => absurd hh (b2i_n0.mpr (c1))) (fun _ => ?_)
                  refine ex_iload_n dX9_copy_9 rfl rfl ?_
                  refine ex_iconst (x := 0) dX9_copy_10 rfl rfl ?_
                  refine ex_iconst (x := 3) dX9_copy_11 rfl rfl ?_
                  refine ex_callS (rest := []) dX9_copy_12 rfl qp_8_81 rfl rfl rfl (Nat.le_of_ble_eq_true rfl) (k_in _ _ _ _) (Nat.le_of_ble_eq_true rfl) ?_
                  show Ex qm_lay _ mX9_copy 15 [some (.ref 55), some (.int (nI s)), some (.int (nI a)), some (.int (nI o)), some (.int (nI b)), some (.int (nI m)), none, none, none, none] [.int (b2i (tn_in (nI o) 0 3))] σ _ _
                  refine ex_if_ne (q := 21) (q2 := 18) dX9_copy_15 rfl rfl (fun _ => ?_) (fun hh => absurd (b2i_n0.mpr (c2)) hh)
                  refine ex_aload_n dX9_copy_21 rfl rfl ?_
                  refine ex_getR (b := 65) dX9_copy_22 rfl qp_8_37 rfl rfl ?_
                  refine ex_iload_n dX9_copy_25 rfl rfl ?_
                  refine ex_iaload (k := s) (x := S.1 s) dX9_copy_26 rfl rfl (rfl) (by omega) (by decide) ((hM.2.2.2.2.1 s (by omega)).1) ?_
                  refine ex_iconst (x := (-1)) dX9_copy_27 rfl rfl ?_
                  refine ex_icmp_eq (q := 41) (q2 := 31) dX9_copy_28 rfl rfl (fun hh => absurd hh (c3)) (fun _ => ?_)
                  refine ex_aload_n dX9_copy_31 rfl rfl ?_
                  refine ex_getR (b := 65) dX9_copy_32 rfl qp_8_37 rfl rfl ?_
                  refine ex_iload_n dX9_copy_35 rfl rfl ?_
                  refine ex_iaload (k := o) (x := S.1 o) dX9_copy_36 rfl rfl (rfl) (by omega) (by decide) ((hM.2.2.2.2.1 o (by omega)).1) ?_
                  refine ex_iconst (x := (-1)) dX9_copy_37 rfl rfl ?_
                  refine ex_icmp_ne (q := 44) (q2 := 41) dX9_copy_38 rfl rfl (fun _ => ?_) (fun hh => absurd (c4) hh)
                  refine ex_aload_n dX9_copy_44 rfl rfl ?_
                  refine ex_getR (b := 65) dX9_copy_45 rfl qp_8_37 rfl rfl ?_
                  refine ex_iload_n dX9_copy_48 rfl rfl ?_
                  refine ex_iaload (k := s) (x := S.1 s) dX9_copy_49 rfl rfl (rfl) (by omega) (by decide) ((hM.2.2.2.2.1 s (by omega)).1) ?_
                  refine ex_aload_n dX9_copy_50 rfl rfl ?_
                  refine ex_getR (b := 65) dX9_copy_51 rfl qp_8_37 rfl rfl ?_
                  refine ex_iload_n dX9_copy_54 rfl rfl ?_
                  refine ex_iaload (k := o) (x := S.1 o) dX9_copy_55 rfl rfl (rfl) (by omega) (by decide) ((hM.2.2.2.2.1 o (by omega)).1) ?_
                  refine ex_icmp_eq (q := 62) (q2 := 59) dX9_copy_56 rfl rfl (fun _ => ?_) (fun hh => absurd (c5) hh)
                  refine ex_iload dX9_copy_62 rfl rfl ?_
                  refine ex_if_lt (q := 124) (q2 := 67) dX9_copy_64 rfl rfl (fun hh => absurd hh (nI_pos (by omega))) (fun _ => ?_)
                  refine ex_iload_n dX9_copy_67 rfl rfl ?_
                  refine ex_if_lt (q := 124) (q2 := 71) dX9_copy_68 rfl rfl (fun hh => absurd hh (nI_pos (by omega))) (fun _ => ?_)
                  refine ex_iload dX9_copy_71 rfl rfl ?_
                  refine ex_if_lt (q := 124) (q2 := 76) dX9_copy_73 rfl rfl (fun hh => absurd hh (nI_pos (by omega))) (fun _ => ?_)
                  refine ex_iload_n dX9_copy_76 rfl rfl ?_
                  refine ex_aload_n dX9_copy_77 rfl rfl ?_
                  refine ex_getR (b := 66) dX9_copy_78 rfl qp_8_40 rfl rfl ?_
                  refine ex_iload_n dX9_copy_81 rfl rfl ?_
                  refine ex_iaload (k := s) (x := nI (S.2.1 s)) dX9_copy_82 rfl rfl (rfl) (by omega) (by decide) ((hM.2.2.2.2.1 s (by omega)).2.1) ?_
                  refine ex_icmp_gt (q := 124) (q2 := 86) dX9_copy_83 rfl rfl (fun hh => absurd hh (nI_nlt (a := (S.2.1 s)) (b := a) (by omega) (by omega))) (fun _ => ?_)
                  refine ex_iload dX9_copy_86 rfl rfl ?_
                  refine ex_aload_n dX9_copy_88 rfl rfl ?_
                  refine ex_getR (b := 66) dX9_copy_89 rfl qp_8_40 rfl rfl ?_
                  refine ex_iload_n dX9_copy_92 rfl rfl ?_
                  refine ex_iaload (k := o) (x := nI (S.2.1 o)) dX9_copy_93 rfl rfl (rfl) (by omega) (by decide) ((hM.2.2.2.2.1 o (by omega)).2.1) ?_
                  refine ex_icmp_gt (q := 124) (q2 := 97) dX9_copy_94 rfl rfl (fun hh => absurd hh (nI_nlt (a := (S.2.1 o)) (b := b) (by omega) (by omega))) (fun _ => ?_)
                  refine ex_iload dX9_copy_97 rfl rfl ?_
                  refine ex_aload_n dX9_copy_99 rfl rfl ?_
                  refine ex_getR (b := 66) dX9_copy_100 rfl qp_8_40 rfl rfl ?_
                  refine ex_iload_n dX9_copy_103 rfl rfl ?_
                  refine ex_iaload (k := s) (x := nI (S.2.1 s)) dX9_copy_104 rfl rfl (rfl) (by omega) (by decide) ((hM.2.2.2.2.1 s (by omega)).2.1) ?_
                  refine ex_iload_n dX9_copy_105 rfl rfl ?_
                  refine ex_isub (z := nI (S.2.1 s - a)) dX9_copy_106 rfl (pk_sub (by omega)) ?_
                  refine ex_icmp_gt (q := 124) (q2 := 110) dX9_copy_107 rfl rfl (fun hh => absurd hh (nI_nlt (a := (S.2.1 s - a)) (b := m) (by omega) (by omega))) (fun _ => ?_)
                  refine ex_iload dX9_copy_110 rfl rfl ?_
                  refine ex_aload_n dX9_copy_112 rfl rfl ?_
                  refine ex_getR (b := 66) dX9_copy_113 rfl qp_8_40 rfl rfl ?_
                  refine ex_iload_n dX9_copy_116 rfl rfl ?_
                  refine ex_iaload (k := o) (x := nI (S.2.1 o)) dX9_copy_117 rfl rfl (rfl) (by omega) (by decide) ((hM.2.2.2.2.1 o (by omega)).2.1) ?_
                  refine ex_iload dX9_copy_118 rfl rfl ?_
                  refine ex_isub (z := nI (S.2.1 o - b)) dX9_copy_120 rfl (pk_sub (by omega)) ?_
                  refine ex_icmp_le (q := 127) (q2 := 124) dX9_copy_121 rfl rfl (fun _ => ?_) (fun hh => absurd (nI_le (a := m) (b := (S.2.1 o - b)) (by omega) (by omega)) hh)
                  refine ex_bipush (x := 40) dX9_copy_127 rfl rfl ?_
                  refine ex_iload_n dX9_copy_129 rfl rfl ?_
                  refine ex_imul (z := nI (40 * s)) dX9_copy_130 rfl (pk_mul 40 s) ?_
                  refine ex_iload_n dX9_copy_131 rfl rfl ?_
                  refine ex_iadd (z := nI ((40 * s) + a)) dX9_copy_132 rfl (nI_add (40 * s) a) ?_
                  refine ex_istore (ls' := [some (.ref 55), some (.int (nI s)), some (.int (nI a)), some (.int (nI o)), some (.int (nI b)), some (.int (nI m)), some (.int (nI ((40 * s) + a))), none, none, none]) dX9_copy_133 rfl (Nat.le_of_ble_eq_true rfl) rfl rfl ?_
                  refine ex_bipush (x := 40) dX9_copy_135 rfl rfl ?_
                  refine ex_iload_n dX9_copy_137 rfl rfl ?_
                  refine ex_imul (z := nI (40 * o)) dX9_copy_138 rfl (pk_mul 40 o) ?_
                  refine ex_iload dX9_copy_139 rfl rfl ?_
                  refine ex_iadd (z := nI ((40 * o) + b)) dX9_copy_141 rfl (nI_add (40 * o) b) ?_
                  refine ex_istore (ls' := [some (.ref 55), some (.int (nI s)), some (.int (nI a)), some (.int (nI o)), some (.int (nI b)), some (.int (nI m)), some (.int (nI ((40 * s) + a))), some (.int (nI ((40 * o) + b))), none, none]) dX9_copy_142 rfl (Nat.le_of_ble_eq_true rfl) rfl rfl ?_
                  refine ex_iconst (x := 0) dX9_copy_144 rfl rfl ?_
                  refine ex_istore (ls' := [some (.ref 55), some (.int (nI s)), some (.int (nI a)), some (.int (nI o)), some (.int (nI b)), some (.int (nI m)), some (.int (nI ((40 * s) + a))), some (.int (nI ((40 * o) + b))), some (.int 0), none]) dX9_copy_145 rfl (Nat.le_of_ble_eq_true rfl) rfl rfl ?_
                  exact hE
            · refine J.q hG (.int (-12)) (fun σ hC => ?_) (fun σ hM => ?_)
              · have h : TR σ 9 18 T := hC.1
                refine Ok.of (ls := [some (.ref 54), some (.int (nI s)), some (.int i), some (.int (nI o)), some (.int j), some (.int n)]) (Nat.le_of_ble_eq_true rfl) rfl ?_
                refine ex_iload_n dX8_copy_0 rfl rfl ?_
                refine ex_callS (rest := []) dX8_copy_1 rfl qp_7_201 rfl rfl rfl (Nat.le_of_ble_eq_true rfl) (c_isSheet _ _) (Nat.le_of_ble_eq_true rfl) ?_
                show Ex qm_lay _ mX8_copy 4 [some (.ref 54), some (.int (nI s)), some (.int i), some (.int (nI o)), some (.int j), some (.int n)] [.int (b2i (tn_in (nI s) 0 3))] σ _ _
                refine ex_if_eq (q := 14) (q2 := 7) dX8_copy_4 rfl rfl (fun hh => absurd hh (b2i_n0.mpr (c1))) (fun _ => ?_)
                refine ex_iload_n dX8_copy_7 rfl rfl ?_
                refine ex_callS (rest := []) dX8_copy_8 rfl qp_7_201 rfl rfl rfl (Nat.le_of_ble_eq_true rfl) (c_isSheet _ _) (Nat.le_of_ble_eq_true rfl) ?_
                show Ex qm_lay _ mX8_copy 11 [some (.ref 54), some (.int (nI s)), some (.int i), some (.int (nI o)), some (.int j), some (.int n)] [.int (b2i (tn_in (nI o) 0 3))] σ _ _
                refine ex_if_ne (q := 17) (q2 := 14) dX8_copy_11 rfl rfl (fun _ => ?_) (fun hh => absurd (b2i_n0.mpr (c2)) hh)
                refine ex_aload_n dX8_copy_17 rfl rfl ?_
                refine ex_getR (b := 40) dX8_copy_18 rfl qp_7_36 rfl rfl ?_
                refine ex_iload_n dX8_copy_21 rfl rfl ?_
                refine ex_callV (a := 40) (rest := []) dX8_copy_22 rfl qp_7_204 rfl rfl rfl rfl rfl (Nat.le_of_ble_eq_true rfl) (c_isMissing hS hC.2.2.2.2 (by omega)) (Nat.le_of_ble_eq_true rfl) ?_
                show Ex qm_lay _ mX8_copy 25 [some (.ref 54), some (.int (nI s)), some (.int i), some (.int (nI o)), some (.int j), some (.int n)] [.int (b2i (decide (S.1 s = -1)))] σ _ _
                refine ex_if_ne (q := 39) (q2 := 28) dX8_copy_25 rfl rfl (fun hh => absurd hh (fun zz => zz (b2i_0.mpr (decide_eq_false c3)))) (fun _ => ?_)
                refine ex_aload_n dX8_copy_28 rfl rfl ?_
                refine ex_getR (b := 40) dX8_copy_29 rfl qp_7_36 rfl rfl ?_
                refine ex_iload_n dX8_copy_32 rfl rfl ?_
                refine ex_callV (a := 40) (rest := []) dX8_copy_33 rfl qp_7_204 rfl rfl rfl rfl rfl (Nat.le_of_ble_eq_true rfl) (c_isMissing hS hC.2.2.2.2 (by omega)) (Nat.le_of_ble_eq_true rfl) ?_
                show Ex qm_lay _ mX8_copy 36 [some (.ref 54), some (.int (nI s)), some (.int i), some (.int (nI o)), some (.int j), some (.int n)] [.int (b2i (decide (S.1 o = -1)))] σ _ _
                refine ex_if_eq (q := 42) (q2 := 39) dX8_copy_36 rfl rfl (fun _ => ?_) (fun hh => absurd (b2i_0.mpr (decide_eq_false c4)) hh)
                refine ex_aload_n dX8_copy_42 rfl rfl ?_
                refine ex_getR (b := 40) dX8_copy_43 rfl qp_7_36 rfl rfl ?_
                refine ex_getR (b := 43) dX8_copy_46 rfl qp_7_288 rfl rfl ?_
                refine ex_iload_n dX8_copy_49 rfl rfl ?_
                refine ex_iaload (k := s) (x := S.1 s) dX8_copy_50 rfl rfl (rfl) (by omega) (by decide) ((hC.2.2.2.2 s (by omega)).1) ?_
                refine ex_aload_n dX8_copy_51 rfl rfl ?_
                refine ex_getR (b := 40) dX8_copy_52 rfl qp_7_36 rfl rfl ?_
                refine ex_getR (b := 43) dX8_copy_55 rfl qp_7_288 rfl rfl ?_
                refine ex_iload_n dX8_copy_58 rfl rfl ?_
                refine ex_iaload (k := o) (x := S.1 o) dX8_copy_59 rfl rfl (rfl) (by omega) (by decide) ((hC.2.2.2.2 o (by omega)).1) ?_
                refine ex_icmp_eq (q := 66) (q2 := 63) dX8_copy_60 rfl rfl (fun _ => ?_) (fun hh => absurd (c5) hh)
                refine ex_iload dX8_copy_66 rfl rfl ?_
                refine ex_if_lt (q := 100) (q2 := 71) dX8_copy_68 rfl rfl (fun h68 => ?_) (fun h68 => ?_)
                · refine ex_bipush (x := (-12)) dX8_copy_100 rfl rfl ?_
                  exact ex_iret dX8_copy_102 rfl rfl rfl
                · refine ex_aload_n dX8_copy_71 rfl rfl ?_
                  refine ex_getR (b := 40) dX8_copy_72 rfl qp_7_36 rfl rfl ?_
                  refine ex_iload_n dX8_copy_75 rfl rfl ?_
                  refine ex_iload_n dX8_copy_76 rfl rfl ?_
                  refine ex_iload dX8_copy_77 rfl rfl ?_
                  refine ex_callV (a := 40) (rest := []) dX8_copy_79 rfl qp_7_291 rfl rfl rfl rfl rfl (Nat.le_of_ble_eq_true rfl) (c_hasRange hS hC.2.2.2.2 (by omega) _ _) (Nat.le_of_ble_eq_true rfl) ?_
                  show Ex qm_lay _ mX8_copy 82 [some (.ref 54), some (.int (nI s)), some (.int i), some (.int (nI o)), some (.int j), some (.int n)] [.int (b2i (gs_hr (S.2.1 s) i n))] σ _ _
                  refine ex_if_eq (q := 100) (q2 := 85) dX8_copy_82 rfl rfl (fun h82 => ?_) (fun h82 => ?_)
                  · have hb82 : (gs_hr (S.2.1 s) i n) = false := b2i_0.mp h82
                    refine ex_bipush (x := (-12)) dX8_copy_100 rfl rfl ?_
                    exact ex_iret dX8_copy_102 rfl rfl rfl
                  · have hb82 : (gs_hr (S.2.1 s) i n) = true := b2i_n0.mp h82
                    refine ex_aload_n dX8_copy_85 rfl rfl ?_
                    refine ex_getR (b := 40) dX8_copy_86 rfl qp_7_36 rfl rfl ?_
                    refine ex_iload_n dX8_copy_89 rfl rfl ?_
                    refine ex_iload dX8_copy_90 rfl rfl ?_
                    refine ex_iload dX8_copy_92 rfl rfl ?_
                    refine ex_callV (a := 40) (rest := []) dX8_copy_94 rfl qp_7_291 rfl rfl rfl rfl rfl (Nat.le_of_ble_eq_true rfl) (c_hasRange hS hC.2.2.2.2 (by omega) _ _) (Nat.le_of_ble_eq_true rfl) ?_
                    show Ex qm_lay _ mX8_copy 97 [some (.ref 54), some (.int (nI s)), some (.int i), some (.int (nI o)), some (.int j), some (.int n)] [.int (b2i (gs_hr (S.2.1 o) j n))] σ _ _
                    refine ex_if_ne (q := 103) (q2 := 100) dX8_copy_97 rfl rfl (fun h97 => ?_) (fun h97 => ?_)
                    · have hb97 : (gs_hr (S.2.1 o) j n) = true := b2i_n0.mp h97
                      exact absurd ⟨h68, hb82, hb97⟩ c6
                    · have hb97 : (gs_hr (S.2.1 o) j n) = false := b2i_0.mp (Decidable.not_not.mp h97)
                      refine ex_bipush (x := (-12)) dX8_copy_100 rfl rfl ?_
                      exact ex_iret dX8_copy_102 rfl rfl rfl
              · have h : MR σ T := hM.1
                refine Ok.of (ls := [some (.ref 55), some (.int (nI s)), some (.int i), some (.int (nI o)), some (.int j), some (.int n), none, none, none, none]) (Nat.le_of_ble_eq_true rfl) rfl ?_
                refine ex_iload_n dX9_copy_0 rfl rfl ?_
                refine ex_iconst (x := 0) dX9_copy_1 rfl rfl ?_
                refine ex_iconst (x := 3) dX9_copy_2 rfl rfl ?_
                refine ex_callS (rest := []) dX9_copy_3 rfl qp_8_81 rfl rfl rfl (Nat.le_of_ble_eq_true rfl) (k_in _ _ _ _) (Nat.le_of_ble_eq_true rfl) ?_
                show Ex qm_lay _ mX9_copy 6 [some (.ref 55), some (.int (nI s)), some (.int i), some (.int (nI o)), some (.int j), some (.int n), none, none, none, none] [.int (b2i (tn_in (nI s) 0 3))] σ _ _
                refine ex_if_eq (q := 18) (q2 := 9) dX9_copy_6 rfl rfl (fun hh => absurd hh (b2i_n0.mpr (c1))) (fun _ => ?_)
                refine ex_iload_n dX9_copy_9 rfl rfl ?_
                refine ex_iconst (x := 0) dX9_copy_10 rfl rfl ?_
                refine ex_iconst (x := 3) dX9_copy_11 rfl rfl ?_
                refine ex_callS (rest := []) dX9_copy_12 rfl qp_8_81 rfl rfl rfl (Nat.le_of_ble_eq_true rfl) (k_in _ _ _ _) (Nat.le_of_ble_eq_true rfl) ?_
                show Ex qm_lay _ mX9_copy 15 [some (.ref 55), some (.int (nI s)), some (.int i), some (.int (nI o)), some (.int j), some (.int n), none, none, none, none] [.int (b2i (tn_in (nI o) 0 3))] σ _ _
                refine ex_if_ne (q := 21) (q2 := 18) dX9_copy_15 rfl rfl (fun _ => ?_) (fun hh => absurd (b2i_n0.mpr (c2)) hh)
                refine ex_aload_n dX9_copy_21 rfl rfl ?_
                refine ex_getR (b := 65) dX9_copy_22 rfl qp_8_37 rfl rfl ?_
                refine ex_iload_n dX9_copy_25 rfl rfl ?_
                refine ex_iaload (k := s) (x := S.1 s) dX9_copy_26 rfl rfl (rfl) (by omega) (by decide) ((hM.2.2.2.2.1 s (by omega)).1) ?_
                refine ex_iconst (x := (-1)) dX9_copy_27 rfl rfl ?_
                refine ex_icmp_eq (q := 41) (q2 := 31) dX9_copy_28 rfl rfl (fun hh => absurd hh (c3)) (fun _ => ?_)
                refine ex_aload_n dX9_copy_31 rfl rfl ?_
                refine ex_getR (b := 65) dX9_copy_32 rfl qp_8_37 rfl rfl ?_
                refine ex_iload_n dX9_copy_35 rfl rfl ?_
                refine ex_iaload (k := o) (x := S.1 o) dX9_copy_36 rfl rfl (rfl) (by omega) (by decide) ((hM.2.2.2.2.1 o (by omega)).1) ?_
                refine ex_iconst (x := (-1)) dX9_copy_37 rfl rfl ?_
                refine ex_icmp_ne (q := 44) (q2 := 41) dX9_copy_38 rfl rfl (fun _ => ?_) (fun hh => absurd (c4) hh)
                refine ex_aload_n dX9_copy_44 rfl rfl ?_
                refine ex_getR (b := 65) dX9_copy_45 rfl qp_8_37 rfl rfl ?_
                refine ex_iload_n dX9_copy_48 rfl rfl ?_
                refine ex_iaload (k := s) (x := S.1 s) dX9_copy_49 rfl rfl (rfl) (by omega) (by decide) ((hM.2.2.2.2.1 s (by omega)).1) ?_
                refine ex_aload_n dX9_copy_50 rfl rfl ?_
                refine ex_getR (b := 65) dX9_copy_51 rfl qp_8_37 rfl rfl ?_
                refine ex_iload_n dX9_copy_54 rfl rfl ?_
                refine ex_iaload (k := o) (x := S.1 o) dX9_copy_55 rfl rfl (rfl) (by omega) (by decide) ((hM.2.2.2.2.1 o (by omega)).1) ?_
                refine ex_icmp_eq (q := 62) (q2 := 59) dX9_copy_56 rfl rfl (fun _ => ?_) (fun hh => absurd (c5) hh)
                refine ex_iload dX9_copy_62 rfl rfl ?_
                refine ex_if_lt (q := 124) (q2 := 67) dX9_copy_64 rfl rfl (fun h64 => ?_) (fun h64 => ?_)
                · refine ex_bipush (x := (-12)) dX9_copy_124 rfl rfl ?_
                  exact ex_iret dX9_copy_126 rfl rfl rfl
                · refine ex_iload_n dX9_copy_67 rfl rfl ?_
                  refine ex_if_lt (q := 124) (q2 := 71) dX9_copy_68 rfl rfl (fun h68 => ?_) (fun h68 => ?_)
                  · refine ex_bipush (x := (-12)) dX9_copy_124 rfl rfl ?_
                    exact ex_iret dX9_copy_126 rfl rfl rfl
                  · refine ex_iload dX9_copy_71 rfl rfl ?_
                    refine ex_if_lt (q := 124) (q2 := 76) dX9_copy_73 rfl rfl (fun h73 => ?_) (fun h73 => ?_)
                    · refine ex_bipush (x := (-12)) dX9_copy_124 rfl rfl ?_
                      exact ex_iret dX9_copy_126 rfl rfl rfl
                    · refine ex_iload_n dX9_copy_76 rfl rfl ?_
                      refine ex_aload_n dX9_copy_77 rfl rfl ?_
                      refine ex_getR (b := 66) dX9_copy_78 rfl qp_8_40 rfl rfl ?_
                      refine ex_iload_n dX9_copy_81 rfl rfl ?_
                      refine ex_iaload (k := s) (x := nI (S.2.1 s)) dX9_copy_82 rfl rfl (rfl) (by omega) (by decide) ((hM.2.2.2.2.1 s (by omega)).2.1) ?_
                      refine ex_icmp_gt (q := 124) (q2 := 86) dX9_copy_83 rfl rfl (fun h83 => ?_) (fun h83 => ?_)
                      · refine ex_bipush (x := (-12)) dX9_copy_124 rfl rfl ?_
                        exact ex_iret dX9_copy_126 rfl rfl rfl
                      · refine ex_iload dX9_copy_86 rfl rfl ?_
                        refine ex_aload_n dX9_copy_88 rfl rfl ?_
                        refine ex_getR (b := 66) dX9_copy_89 rfl qp_8_40 rfl rfl ?_
                        refine ex_iload_n dX9_copy_92 rfl rfl ?_
                        refine ex_iaload (k := o) (x := nI (S.2.1 o)) dX9_copy_93 rfl rfl (rfl) (by omega) (by decide) ((hM.2.2.2.2.1 o (by omega)).2.1) ?_
                        refine ex_icmp_gt (q := 124) (q2 := 97) dX9_copy_94 rfl rfl (fun h94 => ?_) (fun h94 => ?_)
                        · refine ex_bipush (x := (-12)) dX9_copy_124 rfl rfl ?_
                          exact ex_iret dX9_copy_126 rfl rfl rfl
                        · refine ex_iload dX9_copy_97 rfl rfl ?_
                          refine ex_aload_n dX9_copy_99 rfl rfl ?_
                          refine ex_getR (b := 66) dX9_copy_100 rfl qp_8_40 rfl rfl ?_
                          refine ex_iload_n dX9_copy_103 rfl rfl ?_
                          refine ex_iaload (k := s) (x := nI (S.2.1 s)) dX9_copy_104 rfl rfl (rfl) (by omega) (by decide) ((hM.2.2.2.2.1 s (by omega)).2.1) ?_
                          refine ex_iload_n dX9_copy_105 rfl rfl ?_
                          refine ex_isub (z := nI (S.2.1 s) - i) dX9_copy_106 rfl (rfl) ?_
                          refine ex_icmp_gt (q := 124) (q2 := 110) dX9_copy_107 rfl rfl (fun h107 => ?_) (fun h107 => ?_)
                          · refine ex_bipush (x := (-12)) dX9_copy_124 rfl rfl ?_
                            exact ex_iret dX9_copy_126 rfl rfl rfl
                          · refine ex_iload dX9_copy_110 rfl rfl ?_
                            refine ex_aload_n dX9_copy_112 rfl rfl ?_
                            refine ex_getR (b := 66) dX9_copy_113 rfl qp_8_40 rfl rfl ?_
                            refine ex_iload_n dX9_copy_116 rfl rfl ?_
                            refine ex_iaload (k := o) (x := nI (S.2.1 o)) dX9_copy_117 rfl rfl (rfl) (by omega) (by decide) ((hM.2.2.2.2.1 o (by omega)).2.1) ?_
                            refine ex_iload dX9_copy_118 rfl rfl ?_
                            refine ex_isub (z := nI (S.2.1 o) - j) dX9_copy_120 rfl (rfl) ?_
                            refine ex_icmp_le (q := 127) (q2 := 124) dX9_copy_121 rfl rfl (fun h121 => ?_) (fun h121 => ?_)
                            · exact absurd ⟨h64, decide_eq_true ⟨Int32.not_lt.mp h68, Int32.not_lt.mp h83, Int32.not_lt.mp h107⟩, decide_eq_true ⟨Int32.not_lt.mp h73, Int32.not_lt.mp h94, h121⟩⟩ c6
                            · refine ex_bipush (x := (-12)) dX9_copy_124 rfl rfl ?_
                              exact ex_iret dX9_copy_126 rfl rfl rfl
          · refine J.q hG (.int (-13)) (fun σ hC => ?_) (fun σ hM => ?_)
            · have h : TR σ 9 18 T := hC.1
              refine Ok.of (ls := [some (.ref 54), some (.int (nI s)), some (.int i), some (.int (nI o)), some (.int j), some (.int n)]) (Nat.le_of_ble_eq_true rfl) rfl ?_
              refine ex_iload_n dX8_copy_0 rfl rfl ?_
              refine ex_callS (rest := []) dX8_copy_1 rfl qp_7_201 rfl rfl rfl (Nat.le_of_ble_eq_true rfl) (c_isSheet _ _) (Nat.le_of_ble_eq_true rfl) ?_
              show Ex qm_lay _ mX8_copy 4 [some (.ref 54), some (.int (nI s)), some (.int i), some (.int (nI o)), some (.int j), some (.int n)] [.int (b2i (tn_in (nI s) 0 3))] σ _ _
              refine ex_if_eq (q := 14) (q2 := 7) dX8_copy_4 rfl rfl (fun hh => absurd hh (b2i_n0.mpr (c1))) (fun _ => ?_)
              refine ex_iload_n dX8_copy_7 rfl rfl ?_
              refine ex_callS (rest := []) dX8_copy_8 rfl qp_7_201 rfl rfl rfl (Nat.le_of_ble_eq_true rfl) (c_isSheet _ _) (Nat.le_of_ble_eq_true rfl) ?_
              show Ex qm_lay _ mX8_copy 11 [some (.ref 54), some (.int (nI s)), some (.int i), some (.int (nI o)), some (.int j), some (.int n)] [.int (b2i (tn_in (nI o) 0 3))] σ _ _
              refine ex_if_ne (q := 17) (q2 := 14) dX8_copy_11 rfl rfl (fun _ => ?_) (fun hh => absurd (b2i_n0.mpr (c2)) hh)
              refine ex_aload_n dX8_copy_17 rfl rfl ?_
              refine ex_getR (b := 40) dX8_copy_18 rfl qp_7_36 rfl rfl ?_
              refine ex_iload_n dX8_copy_21 rfl rfl ?_
              refine ex_callV (a := 40) (rest := []) dX8_copy_22 rfl qp_7_204 rfl rfl rfl rfl rfl (Nat.le_of_ble_eq_true rfl) (c_isMissing hS hC.2.2.2.2 (by omega)) (Nat.le_of_ble_eq_true rfl) ?_
              show Ex qm_lay _ mX8_copy 25 [some (.ref 54), some (.int (nI s)), some (.int i), some (.int (nI o)), some (.int j), some (.int n)] [.int (b2i (decide (S.1 s = -1)))] σ _ _
              refine ex_if_ne (q := 39) (q2 := 28) dX8_copy_25 rfl rfl (fun hh => absurd hh (fun zz => zz (b2i_0.mpr (decide_eq_false c3)))) (fun _ => ?_)
              refine ex_aload_n dX8_copy_28 rfl rfl ?_
              refine ex_getR (b := 40) dX8_copy_29 rfl qp_7_36 rfl rfl ?_
              refine ex_iload_n dX8_copy_32 rfl rfl ?_
              refine ex_callV (a := 40) (rest := []) dX8_copy_33 rfl qp_7_204 rfl rfl rfl rfl rfl (Nat.le_of_ble_eq_true rfl) (c_isMissing hS hC.2.2.2.2 (by omega)) (Nat.le_of_ble_eq_true rfl) ?_
              show Ex qm_lay _ mX8_copy 36 [some (.ref 54), some (.int (nI s)), some (.int i), some (.int (nI o)), some (.int j), some (.int n)] [.int (b2i (decide (S.1 o = -1)))] σ _ _
              refine ex_if_eq (q := 42) (q2 := 39) dX8_copy_36 rfl rfl (fun _ => ?_) (fun hh => absurd (b2i_0.mpr (decide_eq_false c4)) hh)
              refine ex_aload_n dX8_copy_42 rfl rfl ?_
              refine ex_getR (b := 40) dX8_copy_43 rfl qp_7_36 rfl rfl ?_
              refine ex_getR (b := 43) dX8_copy_46 rfl qp_7_288 rfl rfl ?_
              refine ex_iload_n dX8_copy_49 rfl rfl ?_
              refine ex_iaload (k := s) (x := S.1 s) dX8_copy_50 rfl rfl (rfl) (by omega) (by decide) ((hC.2.2.2.2 s (by omega)).1) ?_
              refine ex_aload_n dX8_copy_51 rfl rfl ?_
              refine ex_getR (b := 40) dX8_copy_52 rfl qp_7_36 rfl rfl ?_
              refine ex_getR (b := 43) dX8_copy_55 rfl qp_7_288 rfl rfl ?_
              refine ex_iload_n dX8_copy_58 rfl rfl ?_
              refine ex_iaload (k := o) (x := S.1 o) dX8_copy_59 rfl rfl (rfl) (by omega) (by decide) ((hC.2.2.2.2 o (by omega)).1) ?_
              refine ex_icmp_eq (q := 66) (q2 := 63) dX8_copy_60 rfl rfl (fun hh => absurd hh (c5)) (fun _ => ?_)
              refine ex_bipush (x := (-13)) dX8_copy_63 rfl rfl ?_
              exact ex_iret dX8_copy_65 rfl rfl rfl
            · have h : MR σ T := hM.1
              refine Ok.of (ls := [some (.ref 55), some (.int (nI s)), some (.int i), some (.int (nI o)), some (.int j), some (.int n), none, none, none, none]) (Nat.le_of_ble_eq_true rfl) rfl ?_
              refine ex_iload_n dX9_copy_0 rfl rfl ?_
              refine ex_iconst (x := 0) dX9_copy_1 rfl rfl ?_
              refine ex_iconst (x := 3) dX9_copy_2 rfl rfl ?_
              refine ex_callS (rest := []) dX9_copy_3 rfl qp_8_81 rfl rfl rfl (Nat.le_of_ble_eq_true rfl) (k_in _ _ _ _) (Nat.le_of_ble_eq_true rfl) ?_
              show Ex qm_lay _ mX9_copy 6 [some (.ref 55), some (.int (nI s)), some (.int i), some (.int (nI o)), some (.int j), some (.int n), none, none, none, none] [.int (b2i (tn_in (nI s) 0 3))] σ _ _
              refine ex_if_eq (q := 18) (q2 := 9) dX9_copy_6 rfl rfl (fun hh => absurd hh (b2i_n0.mpr (c1))) (fun _ => ?_)
              refine ex_iload_n dX9_copy_9 rfl rfl ?_
              refine ex_iconst (x := 0) dX9_copy_10 rfl rfl ?_
              refine ex_iconst (x := 3) dX9_copy_11 rfl rfl ?_
              refine ex_callS (rest := []) dX9_copy_12 rfl qp_8_81 rfl rfl rfl (Nat.le_of_ble_eq_true rfl) (k_in _ _ _ _) (Nat.le_of_ble_eq_true rfl) ?_
              show Ex qm_lay _ mX9_copy 15 [some (.ref 55), some (.int (nI s)), some (.int i), some (.int (nI o)), some (.int j), some (.int n), none, none, none, none] [.int (b2i (tn_in (nI o) 0 3))] σ _ _
              refine ex_if_ne (q := 21) (q2 := 18) dX9_copy_15 rfl rfl (fun _ => ?_) (fun hh => absurd (b2i_n0.mpr (c2)) hh)
              refine ex_aload_n dX9_copy_21 rfl rfl ?_
              refine ex_getR (b := 65) dX9_copy_22 rfl qp_8_37 rfl rfl ?_
              refine ex_iload_n dX9_copy_25 rfl rfl ?_
              refine ex_iaload (k := s) (x := S.1 s) dX9_copy_26 rfl rfl (rfl) (by omega) (by decide) ((hM.2.2.2.2.1 s (by omega)).1) ?_
              refine ex_iconst (x := (-1)) dX9_copy_27 rfl rfl ?_
              refine ex_icmp_eq (q := 41) (q2 := 31) dX9_copy_28 rfl rfl (fun hh => absurd hh (c3)) (fun _ => ?_)
              refine ex_aload_n dX9_copy_31 rfl rfl ?_
              refine ex_getR (b := 65) dX9_copy_32 rfl qp_8_37 rfl rfl ?_
              refine ex_iload_n dX9_copy_35 rfl rfl ?_
              refine ex_iaload (k := o) (x := S.1 o) dX9_copy_36 rfl rfl (rfl) (by omega) (by decide) ((hM.2.2.2.2.1 o (by omega)).1) ?_
              refine ex_iconst (x := (-1)) dX9_copy_37 rfl rfl ?_
              refine ex_icmp_ne (q := 44) (q2 := 41) dX9_copy_38 rfl rfl (fun _ => ?_) (fun hh => absurd (c4) hh)
              refine ex_aload_n dX9_copy_44 rfl rfl ?_
              refine ex_getR (b := 65) dX9_copy_45 rfl qp_8_37 rfl rfl ?_
              refine ex_iload_n dX9_copy_48 rfl rfl ?_
              refine ex_iaload (k := s) (x := S.1 s) dX9_copy_49 rfl rfl (rfl) (by omega) (by decide) ((hM.2.2.2.2.1 s (by omega)).1) ?_
              refine ex_aload_n dX9_copy_50 rfl rfl ?_
              refine ex_getR (b := 65) dX9_copy_51 rfl qp_8_37 rfl rfl ?_
              refine ex_iload_n dX9_copy_54 rfl rfl ?_
              refine ex_iaload (k := o) (x := S.1 o) dX9_copy_55 rfl rfl (rfl) (by omega) (by decide) ((hM.2.2.2.2.1 o (by omega)).1) ?_
              refine ex_icmp_eq (q := 62) (q2 := 59) dX9_copy_56 rfl rfl (fun hh => absurd hh (c5)) (fun _ => ?_)
              refine ex_bipush (x := (-13)) dX9_copy_59 rfl rfl ?_
              exact ex_iret dX9_copy_61 rfl rfl rfl
    · refine J.q hG (.int (-2)) (fun σ hC => ?_) (fun σ hM => ?_)
      · have h : TR σ 9 18 T := hC.1
        refine Ok.of (ls := [some (.ref 54), some (.int s), some (.int i), some (.int o), some (.int j), some (.int n)]) (Nat.le_of_ble_eq_true rfl) rfl ?_
        refine ex_iload_n dX8_copy_0 rfl rfl ?_
        refine ex_callS (rest := []) dX8_copy_1 rfl qp_7_201 rfl rfl rfl (Nat.le_of_ble_eq_true rfl) (c_isSheet _ _) (Nat.le_of_ble_eq_true rfl) ?_
        show Ex qm_lay _ mX8_copy 4 [some (.ref 54), some (.int s), some (.int i), some (.int o), some (.int j), some (.int n)] [.int (b2i (tn_in s 0 3))] σ _ _
        refine ex_if_eq (q := 14) (q2 := 7) dX8_copy_4 rfl rfl (fun hh => absurd hh (b2i_n0.mpr (c1))) (fun _ => ?_)
        refine ex_iload_n dX8_copy_7 rfl rfl ?_
        refine ex_callS (rest := []) dX8_copy_8 rfl qp_7_201 rfl rfl rfl (Nat.le_of_ble_eq_true rfl) (c_isSheet _ _) (Nat.le_of_ble_eq_true rfl) ?_
        show Ex qm_lay _ mX8_copy 11 [some (.ref 54), some (.int s), some (.int i), some (.int o), some (.int j), some (.int n)] [.int (b2i (tn_in o 0 3))] σ _ _
        refine ex_if_ne (q := 17) (q2 := 14) dX8_copy_11 rfl rfl (fun hh => absurd hh (fun zz => zz (b2i_0.mpr (by simpa using c2)))) (fun _ => ?_)
        refine ex_bipush (x := (-2)) dX8_copy_14 rfl rfl ?_
        exact ex_iret dX8_copy_16 rfl rfl rfl
      · have h : MR σ T := hM.1
        refine Ok.of (ls := [some (.ref 55), some (.int s), some (.int i), some (.int o), some (.int j), some (.int n), none, none, none, none]) (Nat.le_of_ble_eq_true rfl) rfl ?_
        refine ex_iload_n dX9_copy_0 rfl rfl ?_
        refine ex_iconst (x := 0) dX9_copy_1 rfl rfl ?_
        refine ex_iconst (x := 3) dX9_copy_2 rfl rfl ?_
        refine ex_callS (rest := []) dX9_copy_3 rfl qp_8_81 rfl rfl rfl (Nat.le_of_ble_eq_true rfl) (k_in _ _ _ _) (Nat.le_of_ble_eq_true rfl) ?_
        show Ex qm_lay _ mX9_copy 6 [some (.ref 55), some (.int s), some (.int i), some (.int o), some (.int j), some (.int n), none, none, none, none] [.int (b2i (tn_in s 0 3))] σ _ _
        refine ex_if_eq (q := 18) (q2 := 9) dX9_copy_6 rfl rfl (fun hh => absurd hh (b2i_n0.mpr (c1))) (fun _ => ?_)
        refine ex_iload_n dX9_copy_9 rfl rfl ?_
        refine ex_iconst (x := 0) dX9_copy_10 rfl rfl ?_
        refine ex_iconst (x := 3) dX9_copy_11 rfl rfl ?_
        refine ex_callS (rest := []) dX9_copy_12 rfl qp_8_81 rfl rfl rfl (Nat.le_of_ble_eq_true rfl) (k_in _ _ _ _) (Nat.le_of_ble_eq_true rfl) ?_
        show Ex qm_lay _ mX9_copy 15 [some (.ref 55), some (.int s), some (.int i), some (.int o), some (.int j), some (.int n), none, none, none, none] [.int (b2i (tn_in o 0 3))] σ _ _
        refine ex_if_ne (q := 21) (q2 := 18) dX9_copy_15 rfl rfl (fun hh => absurd hh (fun zz => zz (b2i_0.mpr (by simpa using c2)))) (fun _ => ?_)
        refine ex_bipush (x := (-2)) dX9_copy_18 rfl rfl ?_
        exact ex_iret dX9_copy_20 rfl rfl rfl
  · refine J.q hG (.int (-2)) (fun σ hC => ?_) (fun σ hM => ?_)
    · have h : TR σ 9 18 T := hC.1
      refine Ok.of (ls := [some (.ref 54), some (.int s), some (.int i), some (.int o), some (.int j), some (.int n)]) (Nat.le_of_ble_eq_true rfl) rfl ?_
      refine ex_iload_n dX8_copy_0 rfl rfl ?_
      refine ex_callS (rest := []) dX8_copy_1 rfl qp_7_201 rfl rfl rfl (Nat.le_of_ble_eq_true rfl) (c_isSheet _ _) (Nat.le_of_ble_eq_true rfl) ?_
      show Ex qm_lay _ mX8_copy 4 [some (.ref 54), some (.int s), some (.int i), some (.int o), some (.int j), some (.int n)] [.int (b2i (tn_in s 0 3))] σ _ _
      refine ex_if_eq (q := 14) (q2 := 7) dX8_copy_4 rfl rfl (fun _ => ?_) (fun hh => absurd (b2i_0.mpr (by simpa using c1)) hh)
      refine ex_bipush (x := (-2)) dX8_copy_14 rfl rfl ?_
      exact ex_iret dX8_copy_16 rfl rfl rfl
    · have h : MR σ T := hM.1
      refine Ok.of (ls := [some (.ref 55), some (.int s), some (.int i), some (.int o), some (.int j), some (.int n), none, none, none, none]) (Nat.le_of_ble_eq_true rfl) rfl ?_
      refine ex_iload_n dX9_copy_0 rfl rfl ?_
      refine ex_iconst (x := 0) dX9_copy_1 rfl rfl ?_
      refine ex_iconst (x := 3) dX9_copy_2 rfl rfl ?_
      refine ex_callS (rest := []) dX9_copy_3 rfl qp_8_81 rfl rfl rfl (Nat.le_of_ble_eq_true rfl) (k_in _ _ _ _) (Nat.le_of_ble_eq_true rfl) ?_
      show Ex qm_lay _ mX9_copy 6 [some (.ref 55), some (.int s), some (.int i), some (.int o), some (.int j), some (.int n), none, none, none, none] [.int (b2i (tn_in s 0 3))] σ _ _
      refine ex_if_eq (q := 18) (q2 := 9) dX9_copy_6 rfl rfl (fun _ => ?_) (fun hh => absurd (b2i_0.mpr (by simpa using c1)) hh)
      refine ex_bipush (x := (-2)) dX9_copy_18 rfl rfl ?_
      exact ex_iret dX9_copy_20 rfl rfl rfl

set_option maxHeartbeats 2000000 in
theorem l_lotM {σ : qm_St} {T : tn_T} (hT : tn_ok T) (h7 : tn_L T < 7) {x y z : Nat} (hz : z < 2 ^ tn_L T) (hLs : qm_rI σ 27 = nI (tn_L T)) : ∀ (r k : Nat) (σ1 : qm_St), k + r = tn_L T → sm σ σ1 28 28 44 45 → qm_rF σ1 44 (tn_L T) = nI z → (∀ q, q < tn_L T → qm_rF σ1 44 q = nI (tn_b (tn_adk T x y z k) q)) → ∃ σ', sm σ σ' 28 28 44 45 ∧ qm_rF σ' 44 (tn_L T) = nI z ∧ (∀ q, q < tn_L T → qm_rF σ' 44 q = nI (tn_b (tn_add T x y z) q)) ∧ ∀ v τ, Ex qm_lay 20 mX9_lot 164 [some (.ref 55), some (.int (nI x)), some (.int (nI y)), some (.int (nI z)), some (.int (nI (tn_L T)))] [] σ' v τ → Ex qm_lay 20 mX9_lot 99 [some (.ref 55), some (.int (nI x)), some (.int (nI y)), some (.int (nI z)), some (.int (nI k))] [] σ1 v τ := by
  have hz7 : z < 128 := Nat.lt_of_lt_of_le hz (Nat.pow_le_pow_right (by omega) (show tn_L T ≤ 7 by omega))
  intro r
  induction r with
  | zero =>
    intro k σ1 hk hs1 h0 hq
    have ek : k = tn_L T := by omega
    subst ek
    refine ⟨σ1, hs1, h0, hq, fun v τ hE => ?_⟩
    refine ex_iload dX9_lot_99 rfl rfl ?_
    refine ex_aload_n dX9_lot_101 rfl rfl ?_
    refine ex_getI (s := 27) (x := nI (tn_L T)) dX9_lot_102 rfl qp_8_78 rfl rfl ((by rw [hs1.1 _ (by omega)]; exact hLs)) ?_
    refine ex_icmp_ge (q := 164) (q2 := 108) dX9_lot_105 rfl rfl (fun _ => ?_) (fun hh => absurd (nI_le (by omega) (by omega)) hh)
    exact hE
  | succ r ih =>
    intro k σ1 hk hs1 h0 hq
    have hbk := tn_b_lt hT (show k < tn_L T by omega)
    have hst : ∀ w, w = tn_b (tn_adk T x y z (k + 1)) k → ∀ q, q < tn_L T → qm_rF (qm_wF σ1 44 k (nI w)) 44 q = nI (tn_b (tn_adk T x y z (k + 1)) q) := fun w hw q hq7 => by
      by_cases e : q = k
      · rw [rF_eqi e, hw, e]
      · rw [rF_ne (Or.inr e), hq q hq7, tn_adk_b, tn_adk_b, if_neg (show ¬ q = tn_L T by omega), if_neg (show ¬ q = tn_L T by omega)]
        have : (q < k + 1 ∧ z.testBit q = true) ↔ (q < k ∧ z.testBit q = true) := ⟨fun w => ⟨by omega, w.2⟩, fun w => ⟨by omega, w.2⟩⟩
        simp only [this]
    by_cases hb : z.testBit k = true
    · obtain ⟨σ', hs2, h02, hq2, hE0⟩ := ih (k + 1) (qm_wF σ1 44 k (nI (tn_b T k ||| 2 ^ tn_L T))) (by omega) (hs1.wF _ (by omega)) (by rw [rF_ne (by omega)]; exact h0) (hst _ (by rw [tn_adk_b, if_neg (show ¬ k = tn_L T by omega), if_pos ⟨Nat.lt_succ_self k, hb⟩]))
      refine ⟨σ', hs2, h02, hq2, fun v τ hE => ?_⟩
      refine ex_iload dX9_lot_99 rfl rfl ?_
      refine ex_aload_n dX9_lot_101 rfl rfl ?_
      refine ex_getI (s := 27) (x := nI (tn_L T)) dX9_lot_102 rfl qp_8_78 rfl rfl ((by rw [hs1.1 _ (by omega)]; exact hLs)) ?_
      refine ex_icmp_ge (q := 164) (q2 := 108) dX9_lot_105 rfl rfl (fun hh => absurd hh (nI_ge (by omega) (by omega))) (fun _ => ?_)
      refine ex_aload_n dX9_lot_108 rfl rfl ?_
      refine ex_getR (b := 58) dX9_lot_109 rfl qp_8_16 rfl rfl ?_
      refine ex_iload dX9_lot_112 rfl rfl ?_
      refine ex_iload_n dX9_lot_114 rfl rfl ?_
      refine ex_iload dX9_lot_115 rfl rfl ?_
      refine ex_ishr (z := (nI z) >>> ((nI k) &&& 31)) dX9_lot_117 rfl (rfl) ?_
      refine ex_iconst (x := 1) dX9_lot_118 rfl rfl ?_
      refine ex_iand (z := b2i (Nat.testBit z k)) dX9_lot_119 rfl (nI_bit (by omega) (by omega)) ?_
      refine ex_iconst (x := 1) dX9_lot_120 rfl rfl ?_
      refine ex_icmp_ne (q := 141) (q2 := 124) dX9_lot_121 rfl rfl (fun hh => absurd hh (fun zz => zz (by rw [hb]; rfl))) (fun _ => ?_)
      refine ex_aload_n dX9_lot_124 rfl rfl ?_
      refine ex_getR (b := 58) dX9_lot_125 rfl qp_8_16 rfl rfl ?_
      refine ex_iload dX9_lot_128 rfl rfl ?_
      refine ex_iaload (k := k) (x := nI (tn_b T k)) dX9_lot_130 rfl rfl (rfl) (by omega) (by decide) ((by rw [hq k (by omega), tn_adk_hi (by omega)])) ?_
      refine ex_iconst (x := 1) dX9_lot_131 rfl rfl ?_
      refine ex_aload_n dX9_lot_132 rfl rfl ?_
      refine ex_getI (s := 27) (x := nI (tn_L T)) dX9_lot_133 rfl qp_8_78 rfl rfl ((by rw [hs1.1 _ (by omega)]; exact hLs)) ?_
      refine ex_ishl (z := nI (2 ^ (tn_L T))) dX9_lot_136 rfl (nI_1shl (by omega)) ?_
      refine ex_ior (z := nI ((tn_b T k) ||| (2 ^ (tn_L T)))) dX9_lot_137 rfl (nI_or _ _) ?_
      refine ex_goto (q := 157) dX9_lot_138 rfl ?_
      refine ex_iastore (k := k) (σ' := qm_wF σ1 44 k (nI ((tn_b T k) ||| (2 ^ (tn_L T))))) dX9_lot_157 rfl rfl (rfl) (by omega) (by decide) rfl ?_
      refine ex_iinc (y := nI (k + 1)) (ls' := [some (.ref 55), some (.int (nI x)), some (.int (nI y)), some (.int (nI z)), some (.int (nI (k + 1)))]) dX9_lot_158 rfl rfl rfl (nI_add k 1) rfl ?_
      refine ex_goto (q := 99) dX9_lot_161 rfl ?_
      exact hE0 v τ hE
    · have hb : z.testBit k = false := by simpa using hb
      obtain ⟨σ', hs2, h02, hq2, hE0⟩ := ih (k + 1) (qm_wF σ1 44 k (nI (tn_cl (tn_b T k) (tn_L T)))) (by omega) (hs1.wF _ (by omega)) (by rw [rF_ne (by omega)]; exact h0) (hst _ (by rw [tn_adk_b, if_neg (show ¬ k = tn_L T by omega), if_neg (fun w => by rw [hb] at w; cases w.2)]; exact tn_cl_id _ h7 _ hbk (Nat.testBit_lt_two_pow (hT.2.2.2 k (by omega)).2.2.1)))
      refine ⟨σ', hs2, h02, hq2, fun v τ hE => ?_⟩
      refine ex_iload dX9_lot_99 rfl rfl ?_
      refine ex_aload_n dX9_lot_101 rfl rfl ?_
      refine ex_getI (s := 27) (x := nI (tn_L T)) dX9_lot_102 rfl qp_8_78 rfl rfl ((by rw [hs1.1 _ (by omega)]; exact hLs)) ?_
      refine ex_icmp_ge (q := 164) (q2 := 108) dX9_lot_105 rfl rfl (fun hh => absurd hh (nI_ge (by omega) (by omega))) (fun _ => ?_)
      refine ex_aload_n dX9_lot_108 rfl rfl ?_
      refine ex_getR (b := 58) dX9_lot_109 rfl qp_8_16 rfl rfl ?_
      refine ex_iload dX9_lot_112 rfl rfl ?_
      refine ex_iload_n dX9_lot_114 rfl rfl ?_
      refine ex_iload dX9_lot_115 rfl rfl ?_
      refine ex_ishr (z := (nI z) >>> ((nI k) &&& 31)) dX9_lot_117 rfl (rfl) ?_
      refine ex_iconst (x := 1) dX9_lot_118 rfl rfl ?_
      refine ex_iand (z := b2i (Nat.testBit z k)) dX9_lot_119 rfl (nI_bit (by omega) (by omega)) ?_
      refine ex_iconst (x := 1) dX9_lot_120 rfl rfl ?_
      refine ex_icmp_ne (q := 141) (q2 := 124) dX9_lot_121 rfl rfl (fun _ => ?_) (fun hh => absurd (by rw [hb]; decide) hh)
      refine ex_aload_n dX9_lot_141 rfl rfl ?_
      refine ex_getR (b := 58) dX9_lot_142 rfl qp_8_16 rfl rfl ?_
      refine ex_iload dX9_lot_145 rfl rfl ?_
      refine ex_iaload (k := k) (x := nI (tn_b T k)) dX9_lot_147 rfl rfl (rfl) (by omega) (by decide) ((by rw [hq k (by omega), tn_adk_hi (by omega)])) ?_
      refine ex_iconst (x := 1) dX9_lot_148 rfl rfl ?_
      refine ex_aload_n dX9_lot_149 rfl rfl ?_
      refine ex_getI (s := 27) (x := nI (tn_L T)) dX9_lot_150 rfl qp_8_78 rfl rfl ((by rw [hs1.1 _ (by omega)]; exact hLs)) ?_
      refine ex_ishl (z := nI (2 ^ (tn_L T))) dX9_lot_153 rfl (nI_1shl (by omega)) ?_
      refine ex_iconst (x := (-1)) dX9_lot_154 rfl rfl ?_
      refine ex_ixor (z := (nI (2 ^ (tn_L T))) ^^^ (-1)) dX9_lot_155 rfl (rfl) ?_
      refine ex_iand (z := nI (tn_cl (tn_b T k) (tn_L T))) dX9_lot_156 rfl (tn_cls (by omega) (by omega)) ?_
      refine ex_iastore (k := k) (σ' := qm_wF σ1 44 k (nI (tn_cl (tn_b T k) (tn_L T)))) dX9_lot_157 rfl rfl (rfl) (by omega) (by decide) rfl ?_
      refine ex_iinc (y := nI (k + 1)) (ls' := [some (.ref 55), some (.int (nI x)), some (.int (nI y)), some (.int (nI z)), some (.int (nI (k + 1)))]) dX9_lot_158 rfl rfl rfl (nI_add k 1) rfl ?_
      refine ex_goto (q := 99) dX9_lot_161 rfl ?_
      exact hE0 v τ hE

theorem tn_fit_in {T : tn_T} (hT : tn_ok T) {x y z : Int32} (h1 : tn_in x 0 5 = true) (h2 : tn_in y 0 9 = true) (h3 : tn_in z 0 (nI (2 ^ tn_L T - 1)) = true) : tn_fit T x y z = true := by
  have g1 := of_decide_eq_true h1
  have g2 := of_decide_eq_true h2
  have h128 : 2 ^ tn_L T ≤ 128 := Nat.pow_le_pow_right (n := 2) (by omega) hT.1
  have hp := Nat.two_pow_pos (tn_L T)
  obtain ⟨c, hc, rfl⟩ := tn_in_of (n := 2 ^ tn_L T - 1) (by omega) h3
  exact decide_eq_true ⟨g1.1, g1.2, g2.1, g2.2, nI_pos' (by omega), nI_lt (by omega) (by omega)⟩
set_option maxHeartbeats 2000000 in
theorem j_lot {T : tn_T} {X : gx_T} {P : gt_T} {Im : gi_T} {S : gs_T} (hG : gg_ok (T, X, P, Im, S)) (x y z : Int32) : ∃ (r : Int32) (T' : tn_T), JVd 20 mX8_lot mX9_lot [.int x, .int y, .int z] (T, X, P, Im, S) (.int r) (T', X, P, Im, S) := by
  have hT : tn_ok T := hG.1
  have hX : gx_ok X := hG.2.1
  have hP : gt_ok P := hG.2.2.1
  have hI : gi_ok T (gx_n X) Im := hG.2.2.2.1
  have hS : gs_ok S := hG.2.2.2.2.1
  have hw : tn_w T < gx_n X := hG.2.2.2.2.2
  have hL := hT.1
  have hw6 := hT.2.1
  have hu := tn_u_lt hT
  have hX6 := hX.2.1
  have hP6 := hP.1
  by_cases c1 : tn_fit T x y z = true
  · have c0 := of_decide_eq_true c1
    obtain ⟨a, ha, rfl⟩ := nI_of (Int32.not_lt.mpr c0.1)
    obtain ⟨b, hb, rfl⟩ := nI_of (Int32.not_lt.mpr c0.2.2.1)
    obtain ⟨c, hc, rfl⟩ := nI_of (Int32.not_lt.mpr c0.2.2.2.2.1)
    have ha5 : a ≤ 5 := (nI_leI (b := 5) ha (by decide)).mp c0.2.1
    have hb9 : b ≤ 9 := (nI_leI (b := 9) hb (by decide)).mp c0.2.2.2.1
    have h128 : 2 ^ tn_L T ≤ 128 := Nat.pow_le_pow_right (n := 2) (by omega) hL
    have hcz : c < 2 ^ tn_L T := (nI_ltI hc (by omega)).mp c0.2.2.2.2.2
    have i1 : tn_in (nI a) 0 5 = true := tn_in_t (x := 0) (y := 5) (Nat.zero_le _) ha5 (by decide)
    have i2 : tn_in (nI b) 0 9 = true := tn_in_t (x := 0) (y := 9) (Nat.zero_le _) hb9 (by decide)
    have i3 : tn_in (nI c) 0 (nI (2 ^ tn_L T - 1)) = true := tn_in_t (x := 0) (Nat.zero_le _) (by omega) (by omega)
    by_cases c2 : tn_L T = 7
    · refine ⟨-4, T, hG, fun σ hC => ?_, fun σ hM => ?_⟩
      · have h : TR σ 9 18 T := hC.1
        refine ⟨σ, ?_, hC, sm.rf _ _ _ _ _⟩
        refine Ok.of (ls := [some (.ref 54), some (.int (nI a)), some (.int (nI b)), some (.int (nI c))]) (Nat.le_of_ble_eq_true rfl) rfl ?_
        refine ex_aload_n dX8_lot_0 rfl rfl ?_
        refine ex_getR (b := 22) dX8_lot_1 rfl qp_7_10 rfl rfl ?_
        refine ex_iload_n dX8_lot_4 rfl rfl ?_
        refine ex_iload_n dX8_lot_5 rfl rfl ?_
        refine ex_iload_n dX8_lot_6 rfl rfl ?_
        refine ex_callV (a := 22) (rest := []) dX8_lot_7 rfl qp_7_105 rfl rfl rfl rfl rfl (Nat.le_of_ble_eq_true rfl) (c_fitsLot_0 hT h (nI a) (nI b) (nI c)) (Nat.le_of_ble_eq_true rfl) ?_
        show Ex qm_lay _ mX8_lot 10 [some (.ref 54), some (.int (nI a)), some (.int (nI b)), some (.int (nI c))] [.int (b2i (tn_fit T (nI a) (nI b) (nI c)))] σ _ _
        refine ex_if_ne (q := 16) (q2 := 13) dX8_lot_10 rfl rfl (fun _ => ?_) (fun hh => absurd (b2i_n0.mpr (c1)) hh)
        refine ex_aload_n dX8_lot_16 rfl rfl ?_
        refine ex_getR (b := 22) dX8_lot_17 rfl qp_7_10 rfl rfl ?_
        refine ex_getI (s := 9) (x := nI (tn_L T)) dX8_lot_20 rfl qp_7_61 rfl rfl (h.1) ?_
        refine ex_bipush (x := 7) dX8_lot_23 rfl rfl ?_
        refine ex_icmp_lt (q := 31) (q2 := 28) dX8_lot_25 rfl rfl (fun hh => absurd hh (nI_nlt (a := (tn_L T)) (b := 7) (by omega) (by omega))) (fun _ => ?_)
        refine ex_bipush (x := (-4)) dX8_lot_28 rfl rfl ?_
        exact ex_iret dX8_lot_30 rfl rfl rfl
      · have h : MR σ T := hM.1
        refine ⟨σ, ?_, hM, sm.rf _ _ _ _ _⟩
        refine Ok.of (ls := [some (.ref 55), some (.int (nI a)), some (.int (nI b)), some (.int (nI c)), none]) (Nat.le_of_ble_eq_true rfl) rfl ?_
        refine ex_iload_n dX9_lot_0 rfl rfl ?_
        refine ex_iconst (x := 0) dX9_lot_1 rfl rfl ?_
        refine ex_iconst (x := 5) dX9_lot_2 rfl rfl ?_
        refine ex_callS (rest := []) dX9_lot_3 rfl qp_8_81 rfl rfl rfl (Nat.le_of_ble_eq_true rfl) (k_in _ _ _ _) (Nat.le_of_ble_eq_true rfl) ?_
        show Ex qm_lay _ mX9_lot 6 [some (.ref 55), some (.int (nI a)), some (.int (nI b)), some (.int (nI c)), none] [.int (b2i (tn_in (nI a) 0 5))] σ _ _
        refine ex_if_eq (q := 31) (q2 := 9) dX9_lot_6 rfl rfl (fun hh => absurd hh (b2i_n0.mpr (i1))) (fun _ => ?_)
        refine ex_iload_n dX9_lot_9 rfl rfl ?_
        refine ex_iconst (x := 0) dX9_lot_10 rfl rfl ?_
        refine ex_bipush (x := 9) dX9_lot_11 rfl rfl ?_
        refine ex_callS (rest := []) dX9_lot_13 rfl qp_8_81 rfl rfl rfl (Nat.le_of_ble_eq_true rfl) (k_in _ _ _ _) (Nat.le_of_ble_eq_true rfl) ?_
        show Ex qm_lay _ mX9_lot 16 [some (.ref 55), some (.int (nI a)), some (.int (nI b)), some (.int (nI c)), none] [.int (b2i (tn_in (nI b) 0 9))] σ _ _
        refine ex_if_eq (q := 31) (q2 := 19) dX9_lot_16 rfl rfl (fun hh => absurd hh (b2i_n0.mpr (i2))) (fun _ => ?_)
        refine ex_iload_n dX9_lot_19 rfl rfl ?_
        refine ex_iconst (x := 0) dX9_lot_20 rfl rfl ?_
        refine ex_aload_n dX9_lot_21 rfl rfl ?_
        refine ex_callV (a := 55) (rest := [.int 0, .int (nI c)]) dX9_lot_22 rfl qp_8_183 rfl rfl rfl rfl rfl (Nat.le_of_ble_eq_true rfl) (k_all hT h) (Nat.le_of_ble_eq_true rfl) ?_
        show Ex qm_lay _ mX9_lot 25 [some (.ref 55), some (.int (nI a)), some (.int (nI b)), some (.int (nI c)), none] [.int (nI (2 ^ tn_L T - 1)), .int 0, .int (nI c)] σ _ _
        refine ex_callS (rest := []) dX9_lot_25 rfl qp_8_81 rfl rfl rfl (Nat.le_of_ble_eq_true rfl) (k_in _ _ _ _) (Nat.le_of_ble_eq_true rfl) ?_
        show Ex qm_lay _ mX9_lot 28 [some (.ref 55), some (.int (nI a)), some (.int (nI b)), some (.int (nI c)), none] [.int (b2i (tn_in (nI c) 0 (nI (2 ^ tn_L T - 1))))] σ _ _
        refine ex_if_ne (q := 34) (q2 := 31) dX9_lot_28 rfl rfl (fun _ => ?_) (fun hh => absurd (b2i_n0.mpr (i3)) hh)
        refine ex_aload_n dX9_lot_34 rfl rfl ?_
        refine ex_getI (s := 27) (x := nI (tn_L T)) dX9_lot_35 rfl qp_8_78 rfl rfl (h.1.1) ?_
        refine ex_bipush (x := 7) dX9_lot_38 rfl rfl ?_
        refine ex_icmp_ne (q := 46) (q2 := 43) dX9_lot_40 rfl rfl (fun hh => absurd hh (fun zz => zz (congrArg nI (show (tn_L T) = 7 by omega)))) (fun _ => ?_)
        refine ex_bipush (x := (-4)) dX9_lot_43 rfl rfl ?_
        exact ex_iret dX9_lot_45 rfl rfl rfl
    · refine ⟨nI (tn_L T), tn_add T a b c, ⟨tn_add_ok hT (by omega) ha5 hb9, hX, hP, (fun g => by
      obtain ⟨g1, g2, g3, g4⟩ := hI g
      refine ⟨g1, g2, Nat.le_succ_of_le g3, fun l hl => ?_⟩
      have hl2 : l < tn_L Im.2 := hl
      have hne : ¬ l = tn_L T := by omega
      exact ⟨(g4 l hl).1.trans (show tn_k T l = if l = tn_L T then a else tn_k T l from (if_neg hne).symm), (g4 l hl).2.trans (show tn_m T l = if l = tn_L T then b else tn_m T l from (if_neg hne).symm)⟩), hS, hw⟩, fun σ hC => ?_, fun σ hM => ?_⟩
      · have h : TR σ 9 18 T := hC.1
        obtain ⟨σ', hO, hR, hs⟩ := c_addLot_0 hT (show tn_L T < 7 by omega) ha5 hb9 (show c < 128 by omega) h
        refine ⟨σ', ?_, hC.town (G := (T, X, P, Im, S)) hG hR hs, hs.wid (by omega) (by omega)⟩
        refine Ok.of (ls := [some (.ref 54), some (.int (nI a)), some (.int (nI b)), some (.int (nI c))]) (Nat.le_of_ble_eq_true rfl) rfl ?_
        refine ex_aload_n dX8_lot_0 rfl rfl ?_
        refine ex_getR (b := 22) dX8_lot_1 rfl qp_7_10 rfl rfl ?_
        refine ex_iload_n dX8_lot_4 rfl rfl ?_
        refine ex_iload_n dX8_lot_5 rfl rfl ?_
        refine ex_iload_n dX8_lot_6 rfl rfl ?_
        refine ex_callV (a := 22) (rest := []) dX8_lot_7 rfl qp_7_105 rfl rfl rfl rfl rfl (Nat.le_of_ble_eq_true rfl) (c_fitsLot_0 hT h (nI a) (nI b) (nI c)) (Nat.le_of_ble_eq_true rfl) ?_
        show Ex qm_lay _ mX8_lot 10 [some (.ref 54), some (.int (nI a)), some (.int (nI b)), some (.int (nI c))] [.int (b2i (tn_fit T (nI a) (nI b) (nI c)))] σ _ _
        refine ex_if_ne (q := 16) (q2 := 13) dX8_lot_10 rfl rfl (fun _ => ?_) (fun hh => absurd (b2i_n0.mpr (c1)) hh)
        refine ex_aload_n dX8_lot_16 rfl rfl ?_
        refine ex_getR (b := 22) dX8_lot_17 rfl qp_7_10 rfl rfl ?_
        refine ex_getI (s := 9) (x := nI (tn_L T)) dX8_lot_20 rfl qp_7_61 rfl rfl (h.1) ?_
        refine ex_bipush (x := 7) dX8_lot_23 rfl rfl ?_
        refine ex_icmp_lt (q := 31) (q2 := 28) dX8_lot_25 rfl rfl (fun _ => ?_) (fun hh => absurd (nI_lt (a := (tn_L T)) (b := 7) (by omega) (by omega)) hh)
        refine ex_aload_n dX8_lot_31 rfl rfl ?_
        refine ex_getR (b := 22) dX8_lot_32 rfl qp_7_10 rfl rfl ?_
        refine ex_iload_n dX8_lot_35 rfl rfl ?_
        refine ex_iload_n dX8_lot_36 rfl rfl ?_
        refine ex_iload_n dX8_lot_37 rfl rfl ?_
        refine ex_callV (a := 22) (rest := []) dX8_lot_38 rfl qp_7_109 rfl rfl rfl rfl rfl (Nat.le_of_ble_eq_true rfl) (hO) (Nat.le_of_ble_eq_true rfl) ?_
        show Ex qm_lay _ mX8_lot 41 [some (.ref 54), some (.int (nI a)), some (.int (nI b)), some (.int (nI c))] [.int (nI (tn_L T))] σ' _ _
        exact ex_iret dX8_lot_41 rfl rfl rfl
      · have h : MR σ T := hM.1
        obtain ⟨σ', hs, h0, hq, hE⟩ := l_lotM (σ := (qm_wF (qm_wF (qm_wF (qm_wF (qm_wF σ 42 (tn_L T) (nI a)) 43 (tn_L T) (nI b)) 45 (tn_L T) (-1)) 46 (tn_L T) (-1)) 44 (tn_L T) (nI c))) (x := a) (y := b) hT (show tn_L T < 7 by omega) hcz h.1.1 (tn_L T) 0 _ (by omega) (sm.rf _ _ _ _ _) rF_eq (fun q hq => by
          rw [tn_adk_b, if_neg (show ¬ q = tn_L T by omega), if_neg (fun w => absurd w.1 (Nat.not_lt_zero q)), rF_ne (by omega), rF_ne (by omega), rF_ne (by omega), rF_ne (by omega), rF_ne (by omega)]; exact MR.bb h hq)
        have hR := MRadd (x := a) (y := b) hT h hcz hs h0 hq
        have hg : sm σ (qm_wI σ' 27 (nI (tn_L T + 1))) 27 29 42 47 := ((((((sm.rf σ 27 29 42 47).wF _ (by omega)).wF _ (by omega)).wF _ (by omega)).wF _ (by omega)).wF _ (by omega) |>.tr (hs.wid (by omega) (by omega))).wI _ (by omega)
        refine ⟨_, ?_, MG.lots hM hR hg, hg.wid (by omega) (by omega)⟩
        refine Ok.of (ls := [some (.ref 55), some (.int (nI a)), some (.int (nI b)), some (.int (nI c)), none]) (Nat.le_of_ble_eq_true rfl) rfl ?_
        refine ex_iload_n dX9_lot_0 rfl rfl ?_
        refine ex_iconst (x := 0) dX9_lot_1 rfl rfl ?_
        refine ex_iconst (x := 5) dX9_lot_2 rfl rfl ?_
        refine ex_callS (rest := []) dX9_lot_3 rfl qp_8_81 rfl rfl rfl (Nat.le_of_ble_eq_true rfl) (k_in _ _ _ _) (Nat.le_of_ble_eq_true rfl) ?_
        show Ex qm_lay _ mX9_lot 6 [some (.ref 55), some (.int (nI a)), some (.int (nI b)), some (.int (nI c)), none] [.int (b2i (tn_in (nI a) 0 5))] σ _ _
        refine ex_if_eq (q := 31) (q2 := 9) dX9_lot_6 rfl rfl (fun hh => absurd hh (b2i_n0.mpr (i1))) (fun _ => ?_)
        refine ex_iload_n dX9_lot_9 rfl rfl ?_
        refine ex_iconst (x := 0) dX9_lot_10 rfl rfl ?_
        refine ex_bipush (x := 9) dX9_lot_11 rfl rfl ?_
        refine ex_callS (rest := []) dX9_lot_13 rfl qp_8_81 rfl rfl rfl (Nat.le_of_ble_eq_true rfl) (k_in _ _ _ _) (Nat.le_of_ble_eq_true rfl) ?_
        show Ex qm_lay _ mX9_lot 16 [some (.ref 55), some (.int (nI a)), some (.int (nI b)), some (.int (nI c)), none] [.int (b2i (tn_in (nI b) 0 9))] σ _ _
        refine ex_if_eq (q := 31) (q2 := 19) dX9_lot_16 rfl rfl (fun hh => absurd hh (b2i_n0.mpr (i2))) (fun _ => ?_)
        refine ex_iload_n dX9_lot_19 rfl rfl ?_
        refine ex_iconst (x := 0) dX9_lot_20 rfl rfl ?_
        refine ex_aload_n dX9_lot_21 rfl rfl ?_
        refine ex_callV (a := 55) (rest := [.int 0, .int (nI c)]) dX9_lot_22 rfl qp_8_183 rfl rfl rfl rfl rfl (Nat.le_of_ble_eq_true rfl) (k_all hT h) (Nat.le_of_ble_eq_true rfl) ?_
        show Ex qm_lay _ mX9_lot 25 [some (.ref 55), some (.int (nI a)), some (.int (nI b)), some (.int (nI c)), none] [.int (nI (2 ^ tn_L T - 1)), .int 0, .int (nI c)] σ _ _
        refine ex_callS (rest := []) dX9_lot_25 rfl qp_8_81 rfl rfl rfl (Nat.le_of_ble_eq_true rfl) (k_in _ _ _ _) (Nat.le_of_ble_eq_true rfl) ?_
        show Ex qm_lay _ mX9_lot 28 [some (.ref 55), some (.int (nI a)), some (.int (nI b)), some (.int (nI c)), none] [.int (b2i (tn_in (nI c) 0 (nI (2 ^ tn_L T - 1))))] σ _ _
        refine ex_if_ne (q := 34) (q2 := 31) dX9_lot_28 rfl rfl (fun _ => ?_) (fun hh => absurd (b2i_n0.mpr (i3)) hh)
        refine ex_aload_n dX9_lot_34 rfl rfl ?_
        refine ex_getI (s := 27) (x := nI (tn_L T)) dX9_lot_35 rfl qp_8_78 rfl rfl (h.1.1) ?_
        refine ex_bipush (x := 7) dX9_lot_38 rfl rfl ?_
        refine ex_icmp_ne (q := 46) (q2 := 43) dX9_lot_40 rfl rfl (fun _ => ?_) (fun hh => absurd (fun zz => absurd ((nI_eq (a := (tn_L T)) (b := 7) (by omega) (by omega)).mp zz) (by omega)) hh)
        refine ex_aload_n dX9_lot_46 rfl rfl ?_
        refine ex_getR (b := 56) dX9_lot_47 rfl qp_8_7 rfl rfl ?_
        refine ex_aload_n dX9_lot_50 rfl rfl ?_
        refine ex_getI (s := 27) (x := nI (tn_L T)) dX9_lot_51 rfl qp_8_78 rfl rfl (h.1.1) ?_
        refine ex_iload_n dX9_lot_54 rfl rfl ?_
        refine ex_iastore (k := tn_L T) (σ' := qm_wF σ 42 (tn_L T) (nI a)) dX9_lot_55 rfl rfl (rfl) (by omega) (by decide) rfl ?_
        refine ex_aload_n dX9_lot_56 rfl rfl ?_
        refine ex_getR (b := 57) dX9_lot_57 rfl qp_8_13 rfl rfl ?_
        refine ex_aload_n dX9_lot_60 rfl rfl ?_
        refine ex_getI (s := 27) (x := nI (tn_L T)) dX9_lot_61 rfl qp_8_78 rfl rfl (h.1.1) ?_
        refine ex_iload_n dX9_lot_64 rfl rfl ?_
        refine ex_iastore (k := tn_L T) (σ' := qm_wF (qm_wF σ 42 (tn_L T) (nI a)) 43 (tn_L T) (nI b)) dX9_lot_65 rfl rfl (rfl) (by omega) (by decide) rfl ?_
        refine ex_aload_n dX9_lot_66 rfl rfl ?_
        refine ex_getR (b := 59) dX9_lot_67 rfl qp_8_19 rfl rfl ?_
        refine ex_aload_n dX9_lot_70 rfl rfl ?_
        refine ex_getI (s := 27) (x := nI (tn_L T)) dX9_lot_71 rfl qp_8_78 rfl rfl (h.1.1) ?_
        refine ex_iconst (x := (-1)) dX9_lot_74 rfl rfl ?_
        refine ex_iastore (k := tn_L T) (σ' := qm_wF (qm_wF (qm_wF σ 42 (tn_L T) (nI a)) 43 (tn_L T) (nI b)) 45 (tn_L T) (-1)) dX9_lot_75 rfl rfl (rfl) (by omega) (by decide) rfl ?_
        refine ex_aload_n dX9_lot_76 rfl rfl ?_
        refine ex_getR (b := 60) dX9_lot_77 rfl qp_8_22 rfl rfl ?_
        refine ex_aload_n dX9_lot_80 rfl rfl ?_
        refine ex_getI (s := 27) (x := nI (tn_L T)) dX9_lot_81 rfl qp_8_78 rfl rfl (h.1.1) ?_
        refine ex_iconst (x := (-1)) dX9_lot_84 rfl rfl ?_
        refine ex_iastore (k := tn_L T) (σ' := qm_wF (qm_wF (qm_wF (qm_wF σ 42 (tn_L T) (nI a)) 43 (tn_L T) (nI b)) 45 (tn_L T) (-1)) 46 (tn_L T) (-1)) dX9_lot_85 rfl rfl (rfl) (by omega) (by decide) rfl ?_
        refine ex_aload_n dX9_lot_86 rfl rfl ?_
        refine ex_getR (b := 58) dX9_lot_87 rfl qp_8_16 rfl rfl ?_
        refine ex_aload_n dX9_lot_90 rfl rfl ?_
        refine ex_getI (s := 27) (x := nI (tn_L T)) dX9_lot_91 rfl qp_8_78 rfl rfl (h.1.1) ?_
        refine ex_iload_n dX9_lot_94 rfl rfl ?_
        refine ex_iastore (k := tn_L T) (σ' := qm_wF (qm_wF (qm_wF (qm_wF (qm_wF σ 42 (tn_L T) (nI a)) 43 (tn_L T) (nI b)) 45 (tn_L T) (-1)) 46 (tn_L T) (-1)) 44 (tn_L T) (nI c)) dX9_lot_95 rfl rfl (rfl) (by omega) (by decide) rfl ?_
        refine ex_iconst (x := 0) dX9_lot_96 rfl rfl ?_
        refine ex_istore (ls' := [some (.ref 55), some (.int (nI a)), some (.int (nI b)), some (.int (nI c)), some (.int 0)]) dX9_lot_97 rfl (Nat.le_of_ble_eq_true rfl) rfl rfl ?_
        refine hE _ _ ?_
        refine ex_aload_n dX9_lot_164 rfl rfl ?_
        refine ex_dup dX9_lot_165 rfl rfl ?_
        refine ex_getI (s := 27) (x := nI (tn_L T)) dX9_lot_166 rfl qp_8_78 rfl rfl ((by rw [hs.1 _ (by omega)]; exact h.1.1)) ?_
        refine ex_iconst (x := 1) dX9_lot_169 rfl rfl ?_
        refine ex_iadd (z := nI ((tn_L T) + 1)) dX9_lot_170 rfl (nI_add (tn_L T) 1) ?_
        refine ex_put (σ' := qm_wI σ' 27 (nI ((tn_L T) + 1))) dX9_lot_171 rfl qp_8_78 rfl rfl (Or.inl rfl) rfl ?_
        refine ex_aload_n dX9_lot_174 rfl rfl ?_
        refine ex_getI (s := 27) (x := nI ((tn_L T) + 1)) dX9_lot_175 rfl qp_8_78 rfl rfl (rfl) ?_
        refine ex_iconst (x := 1) dX9_lot_178 rfl rfl ?_
        refine ex_isub (z := nI (tn_L T)) dX9_lot_179 rfl (pk_sub (a := tn_L T + 1) (b := 1) (by omega)) ?_
        exact ex_iret dX9_lot_180 rfl rfl rfl
  · refine ⟨-2, T, hG, fun σ hC => ?_, fun σ hM => ?_⟩
    · have h : TR σ 9 18 T := hC.1
      refine ⟨σ, ?_, hC, sm.rf _ _ _ _ _⟩
      refine Ok.of (ls := [some (.ref 54), some (.int x), some (.int y), some (.int z)]) (Nat.le_of_ble_eq_true rfl) rfl ?_
      refine ex_aload_n dX8_lot_0 rfl rfl ?_
      refine ex_getR (b := 22) dX8_lot_1 rfl qp_7_10 rfl rfl ?_
      refine ex_iload_n dX8_lot_4 rfl rfl ?_
      refine ex_iload_n dX8_lot_5 rfl rfl ?_
      refine ex_iload_n dX8_lot_6 rfl rfl ?_
      refine ex_callV (a := 22) (rest := []) dX8_lot_7 rfl qp_7_105 rfl rfl rfl rfl rfl (Nat.le_of_ble_eq_true rfl) (c_fitsLot_0 hT h x y z) (Nat.le_of_ble_eq_true rfl) ?_
      show Ex qm_lay _ mX8_lot 10 [some (.ref 54), some (.int x), some (.int y), some (.int z)] [.int (b2i (tn_fit T x y z))] σ _ _
      refine ex_if_ne (q := 16) (q2 := 13) dX8_lot_10 rfl rfl (fun hh => absurd hh (fun zz => zz (b2i_0.mpr (by simpa using c1)))) (fun _ => ?_)
      refine ex_bipush (x := (-2)) dX8_lot_13 rfl rfl ?_
      exact ex_iret dX8_lot_15 rfl rfl rfl
    · have h : MR σ T := hM.1
      refine ⟨σ, ?_, hM, sm.rf _ _ _ _ _⟩
      refine Ok.of (ls := [some (.ref 55), some (.int x), some (.int y), some (.int z), none]) (Nat.le_of_ble_eq_true rfl) rfl ?_
      refine ex_iload_n dX9_lot_0 rfl rfl ?_
      refine ex_iconst (x := 0) dX9_lot_1 rfl rfl ?_
      refine ex_iconst (x := 5) dX9_lot_2 rfl rfl ?_
      refine ex_callS (rest := []) dX9_lot_3 rfl qp_8_81 rfl rfl rfl (Nat.le_of_ble_eq_true rfl) (k_in _ _ _ _) (Nat.le_of_ble_eq_true rfl) ?_
      show Ex qm_lay _ mX9_lot 6 [some (.ref 55), some (.int x), some (.int y), some (.int z), none] [.int (b2i (tn_in x 0 5))] σ _ _
      refine ex_if_eq (q := 31) (q2 := 9) dX9_lot_6 rfl rfl (fun h6 => ?_) (fun h6 => ?_)
      · have hb6 : (tn_in x 0 5) = false := b2i_0.mp h6
        refine ex_bipush (x := (-2)) dX9_lot_31 rfl rfl ?_
        exact ex_iret dX9_lot_33 rfl rfl rfl
      · have hb6 : (tn_in x 0 5) = true := b2i_n0.mp h6
        refine ex_iload_n dX9_lot_9 rfl rfl ?_
        refine ex_iconst (x := 0) dX9_lot_10 rfl rfl ?_
        refine ex_bipush (x := 9) dX9_lot_11 rfl rfl ?_
        refine ex_callS (rest := []) dX9_lot_13 rfl qp_8_81 rfl rfl rfl (Nat.le_of_ble_eq_true rfl) (k_in _ _ _ _) (Nat.le_of_ble_eq_true rfl) ?_
        show Ex qm_lay _ mX9_lot 16 [some (.ref 55), some (.int x), some (.int y), some (.int z), none] [.int (b2i (tn_in y 0 9))] σ _ _
        refine ex_if_eq (q := 31) (q2 := 19) dX9_lot_16 rfl rfl (fun h16 => ?_) (fun h16 => ?_)
        · have hb16 : (tn_in y 0 9) = false := b2i_0.mp h16
          refine ex_bipush (x := (-2)) dX9_lot_31 rfl rfl ?_
          exact ex_iret dX9_lot_33 rfl rfl rfl
        · have hb16 : (tn_in y 0 9) = true := b2i_n0.mp h16
          refine ex_iload_n dX9_lot_19 rfl rfl ?_
          refine ex_iconst (x := 0) dX9_lot_20 rfl rfl ?_
          refine ex_aload_n dX9_lot_21 rfl rfl ?_
          refine ex_callV (a := 55) (rest := [.int 0, .int z]) dX9_lot_22 rfl qp_8_183 rfl rfl rfl rfl rfl (Nat.le_of_ble_eq_true rfl) (k_all hT h) (Nat.le_of_ble_eq_true rfl) ?_
          show Ex qm_lay _ mX9_lot 25 [some (.ref 55), some (.int x), some (.int y), some (.int z), none] [.int (nI (2 ^ tn_L T - 1)), .int 0, .int z] σ _ _
          refine ex_callS (rest := []) dX9_lot_25 rfl qp_8_81 rfl rfl rfl (Nat.le_of_ble_eq_true rfl) (k_in _ _ _ _) (Nat.le_of_ble_eq_true rfl) ?_
          show Ex qm_lay _ mX9_lot 28 [some (.ref 55), some (.int x), some (.int y), some (.int z), none] [.int (b2i (tn_in z 0 (nI (2 ^ tn_L T - 1))))] σ _ _
          refine ex_if_ne (q := 34) (q2 := 31) dX9_lot_28 rfl rfl (fun h28 => ?_) (fun h28 => ?_)
          · have hb28 : (tn_in z 0 (nI (2 ^ tn_L T - 1))) = true := b2i_n0.mp h28
            exact absurd (tn_fit_in hT hb6 hb16 hb28) c1
          · have hb28 : (tn_in z 0 (nI (2 ^ tn_L T - 1))) = false := b2i_0.mp (Decidable.not_not.mp h28)
            refine ex_bipush (x := (-2)) dX9_lot_31 rfl rfl ?_
            exact ex_iret dX9_lot_33 rfl rfl rfl
theorem j_lotJ {T : tn_T} {X : gx_T} {P : gt_T} {Im : gi_T} {S : gs_T} (hG : gg_ok (T, X, P, Im, S)) (x y z : Int32) : J mX8_lot mX9_lot [.int x, .int y, .int z] (T, X, P, Im, S) := by
  obtain ⟨r, T1, h⟩ := j_lot hG x y z
  exact ⟨_, _, h.up (by decide)⟩
