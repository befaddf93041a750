/-! ===== orders of fewest, of most colours ===== -/
set_option maxRecDepth 1000000 in
theorem nb_dec : ∀ L, L < 8 → ∀ u, u < 128 → u < 2 ^ L → ∀ l, l < L → u.testBit l = false → ((2 ^ L - 1) ^^^ (u ||| 2 ^ l)) = tn_cl ((2 ^ L - 1) ^^^ u) l := by decide +kernel
theorem pk_or (n c : Nat) : ∀ k, tn_pk (n ||| 2 ^ c) k = tn_pk n k + (if c < k ∧ n.testBit c = false then 1 else 0)
  | 0 => by
    rw [if_neg (fun z => absurd z.1 (Nat.not_lt_zero c))]
    rfl
  | k + 1 => by
    rw [tn_pk_s, tn_pk_s, pk_or n c k, ← Nat.toNat_testBit, ← Nat.toNat_testBit, Nat.testBit_or, tb_2]
    by_cases e : c = k
    · subst e
      rw [decide_eq_true rfl, if_neg (fun z => absurd z.1 (Nat.lt_irrefl c))]
      cases hz : n.testBit c with
      | true => rw [if_neg (fun z => by cases z.2)]; rfl
      | false => rw [if_pos ⟨Nat.lt_succ_self c, rfl⟩]; rfl
    · rw [decide_eq_false e, Bool.or_false]
      by_cases g : c < k ∧ n.testBit c = false
      · rw [if_pos g, if_pos ⟨by omega, g.2⟩]; omega
      · rw [if_neg g, if_neg (fun z => g ⟨by omega, z.2⟩)]; omega
theorem pc_or_dec (c : Nat) (n : Nat) : tn_pc n ≤ tn_pc (n ||| 2 ^ c) ∧ tn_pc (n ||| 2 ^ c) ≤ tn_pc n + 1 := by
  have h : tn_pc (n ||| 2 ^ c) = tn_pc n + (if c < 12 ∧ n.testBit c = false then 1 else 0) := pk_or n c 12
  rw [h]
  split <;> omega
theorem nb_bh {T : tn_T} (hT : tn_ok T) {l : Nat} (h : l ∈ tn_ul T) : tn_nb (tn_bh T l) = tn_cl (tn_nb T) l := by
  obtain ⟨h1, h2⟩ := ul_mem h
  exact nb_dec (tn_L T) (by have := hT.1; omega) (tn_u T) (tn_u_lt hT) hT.2.2.1 l h1 h2
theorem u_put (T : tn_T) (l c q : Nat) : (tn_u (tn_put T l c)).testBit q = ((tn_u T).testBit q || decide (l = q)) := by
  show (tn_u T ||| 2 ^ l).testBit q = _
  rw [Nat.testBit_or, tb_2]
theorem ul_bh {T : tn_T} {l : Nat} : tn_ul (tn_bh T l) = (tn_ul T).filter fun b => decide (b ≠ l) := by
  unfold tn_ul
  rw [List.filter_filter]
  refine List.filter_congr (fun q _ => ?_)
  show (!(tn_u (tn_put T l _)).testBit q) = _
  rw [u_put]
  unfold tn_un
  cases (tn_u T).testBit q <;> by_cases e : l = q <;> simp [e, eq_comm]
theorem cf_put (T : tn_T) (l c k : Nat) : tn_cf (tn_put T l c) k = if k = l then 2 ^ c else tn_cf T k := by
  unfold tn_cf
  rw [u_put]
  show (if _ then 2 ^ (if k = l then c else tn_c T k) else 0) = _
  by_cases e : k = l
  · subst e; rw [if_pos rfl, if_pos rfl, decide_eq_true rfl, Bool.or_true, if_pos rfl]
  · rw [if_neg e, if_neg e, decide_eq_false (fun z => e z.symm), Bool.or_false]
theorem fo_put {T : tn_T} {l c : Nat} (h : (tn_u T).testBit l = false) : ∀ n, tn_fo (tn_cf (tn_put T l c)) n = if l < n then tn_fo (tn_cf T) n ||| 2 ^ c else tn_fo (tn_cf T) n := by
  have h0 : tn_cf T l = 0 := by rw [tn_cf, if_neg (by rw [h]; decide)]
  intro n
  induction n with
  | zero => rw [if_neg (Nat.not_lt_zero l)]; rfl
  | succ n ih =>
    show tn_fo (tn_cf (tn_put T l c)) n ||| tn_cf (tn_put T l c) n = if l < n + 1 then (tn_fo (tn_cf T) n ||| tn_cf T n) ||| 2 ^ c else (tn_fo (tn_cf T) n ||| tn_cf T n)
    rw [ih, cf_put]
    by_cases e : n = l
    · subst e
      rw [if_pos rfl, if_neg (Nat.lt_irrefl _), if_pos (Nat.lt_succ_self _), h0, Nat.or_zero]
    · rw [if_neg e]
      by_cases g : l < n
      · rw [if_pos g, if_pos (by omega), Nat.or_assoc, Nat.or_comm (2 ^ c), ← Nat.or_assoc]
      · rw [if_neg g, if_neg (by omega)]
theorem cb_bh {T : tn_T} {l : Nat} (h : l ∈ tn_ul T) : tn_cb (tn_bh T l) = tn_cb T ||| 2 ^ tn_wd T l := by
  obtain ⟨h1, h2⟩ := ul_mem h
  unfold tn_cb tn_bh
  show tn_fo (tn_cf (tn_put T l (tn_wd T l))) (tn_L T) = _
  rw [fo_put h2, if_pos h1]
/-- how many colours then -/
def cn (T : tn_T) (os : List Nat) : Nat := tn_pc (tn_cb (tn_bl T os))
def dgf (d : Nat) (os : List Nat) : Nat := os.foldl (fun d l => 10 * d + l + 1) d
def tn_sn (T : tn_T) (v : Int32) : tn_T := (tn_L T, tn_w T, v, tn_u T, tn_k T, tn_m T, tn_b T, tn_c T, tn_s T)
def tn_s2 (T : tn_T) (v : Int32) (s : Nat → Int32) : tn_T := (tn_L T, tn_w T, v, tn_u T, tn_k T, tn_m T, tn_b T, tn_c T, s)
theorem cn_s2 : ∀ (os : List Nat) (T : tn_T) (v : Int32) (s : Nat → Int32), cn (tn_s2 T v s) os = cn T os
  | [], _, _, _ => rfl
  | a :: os, T, v, s => cn_s2 os (tn_bh T a) (v + 1) (fun q => if q = a then v + 1 else s q)
theorem cn_cons (T : tn_T) (a : Nat) (os : List Nat) : cn T (a :: os) = cn (tn_bh T a) os := rfl
theorem sn_ok {T : tn_T} (hT : tn_ok T) (v : Int32) : tn_ok (tn_sn T v) := hT
theorem TR.ext {σ : qm_St} {i j : Nat} {T T' : tn_T} (h : TR σ i j T) (h1 : tn_L T' = tn_L T) (h2 : tn_w T' = tn_w T) (h3 : tn_n T' = tn_n T) (h4 : tn_u T' = tn_u T) (h5 : ∀ l, l < tn_L T → tn_k T' l = tn_k T l ∧ tn_m T' l = tn_m T l ∧ tn_b T' l = tn_b T l ∧ ((tn_u T).testBit l = true → tn_c T' l = tn_c T l ∧ tn_s T' l = tn_s T l)) : TR σ i j T' := by
  refine ⟨by rw [h1]; exact h.1, by rw [h2]; exact h.2.1, by rw [h3]; exact h.2.2.1, by rw [h4]; exact h.2.2.2.1, fun l hl => ?_⟩
  rw [h1] at hl
  obtain ⟨g1, g2, g3, g4⟩ := h5 l hl
  obtain ⟨a1, a2, a3, a4⟩ := h.2.2.2.2 l hl
  refine ⟨by rw [g1]; exact a1, by rw [g2]; exact a2, by rw [g3]; exact a3, fun hb => ?_⟩
  rw [h4] at hb
  exact ⟨by rw [(g4 hb).1]; exact (a4 hb).1, by rw [(g4 hb).2]; exact (a4 hb).2⟩
/-- built and cleared again -/
theorem TR.undo {σ : qm_St} {i j : Nat} {T : tn_T} {l : Nat} (hT : tn_ok T) (hl : l ∈ tn_ul T) {v w : Int32} (h : TR σ i j (tn_clr (tn_sn (tn_bh (tn_sn T v) l) w) l)) : TR σ i j (tn_sn T w) := by
  obtain ⟨h1, h2⟩ := ul_mem hl
  have hL := hT.1
  have eu : tn_u (tn_clr (tn_sn (tn_bh (tn_sn T v) l) w) l) = tn_u T := by
    show tn_cl (tn_u T ||| 2 ^ l) l = tn_u T
    have hu := tn_u_lt hT
    have h3 : tn_u T ||| 2 ^ l < 128 := Nat.or_lt_two_pow (n := 7) hu (Nat.pow_lt_pow_right (by omega) (by omega))
    refine bit_ext7 (tn_cl_lt h3) hu (fun q hq => ?_)
    rw [tn_cl_tb l (by omega) q hq _ h3, Nat.testBit_or, tb_2]
    by_cases e : l = q
    · subst e; rw [h2]; simp
    · have e2 : ¬ q = l := fun z => e z.symm
      simp [e, e2]
  refine h.ext rfl rfl rfl eu.symm (fun q hq => ⟨rfl, rfl, rfl, fun hb => ?_⟩)
  rw [eu] at hb
  have e : ¬ q = l := fun z => by rw [z, h2] at hb; cases hb
  refine ⟨?_, ?_⟩
  · show tn_c T q = if q = l then _ else tn_c T q
    rw [if_neg e]
  · show tn_s T q = if q = l then _ else tn_s T q
    rw [if_neg e]
/-- the better one stays -/
def st1 (mo : Bool) (p : Int32 × Nat) (n d : Nat) : Int32 × Nat := if (if mo then decide (p.1 < nI n) else decide (nI n < p.1)) = true then (nI n, d) else p
def pf (mo : Bool) (T : tn_T) (d : Nat) (n : Nat) (ls : List Nat) (p : Int32 × Nat) : Int32 × Nat := (pm n ls).foldl (fun p os => st1 mo p (cn T os) (dgf d os)) p
def cbb (mo : Bool) (best : Int32) (c r : Nat) : Bool := if mo then decide (best < nI (c + r)) else decide (nI c < best)
theorem pm_nil : ∀ n, pm n [] = [[]]
  | 0 => rfl
  | _ + 1 => rfl
theorem pm_cons {n : Nat} {ls : List Nat} (h : ls ≠ []) : pm (n + 1) ls = ls.flatMap fun a => (pm n (ls.filter fun b => decide (b ≠ a))).map fun q => a :: q := by
  cases ls with
  | nil => exact absurd rfl h
  | cons a t => rfl
theorem foldl_fm {α β γ : Type} (f : γ → β → γ) (g : α → List β) : ∀ (l : List α) (p : γ), (l.flatMap g).foldl f p = l.foldl (fun p a => (g a).foldl f p) p
  | [], _ => rfl
  | a :: l, p => by
    rw [List.flatMap_cons, List.foldl_append, List.foldl_cons]
    exact foldl_fm f g l _
theorem pf_nil (mo : Bool) (T : tn_T) (d n : Nat) (p : Int32 × Nat) : pf mo T d n [] p = st1 mo p (tn_pc (tn_cb T)) d := by
  rw [pf, pm_nil]; rfl
theorem pf_cons (mo : Bool) (T : tn_T) (d n : Nat) {ls : List Nat} (h : ls ≠ []) (p : Int32 × Nat) : pf mo T d (n + 1) ls p = ls.foldl (fun p a => pf mo (tn_bh T a) (10 * d + a + 1) n (ls.filter fun b => decide (b ≠ a)) p) p := by
  rw [pf, pm_cons h, foldl_fm]
  congr 1
  funext p a
  rw [List.foldl_map]
  rfl
theorem filter_ne_len {ls : List Nat} {a : Nat} (h : a ∈ ls) : (ls.filter fun b => decide (b ≠ a)).length < ls.length := by
  rcases Nat.lt_or_ge (ls.filter fun b => decide (b ≠ a)).length ls.length with q | q
  · exact q
  · have e := List.length_filter_eq_length_iff.mp (Nat.le_antisymm (List.length_filter_le _ _) q)
    exact absurd rfl (of_decide_eq_true (e a h))
/-- no order of the rest takes fewer colours than there are, nor more than each brings one -/
theorem cn_le : ∀ (n : Nat) (T : tn_T), tn_ok T → (tn_ul T).length ≤ n → ∀ os ∈ pm n (tn_ul T), tn_pc (tn_cb T) ≤ cn T os ∧ cn T os ≤ tn_pc (tn_cb T) + (tn_ul T).length := by
  intro n
  induction n with
  | zero =>
    intro T hT hn os ho
    have h0 : tn_ul T = [] := List.eq_nil_of_length_eq_zero (by omega)
    rw [h0, pm_nil] at ho
    rw [List.mem_singleton.mp ho, h0]
    exact ⟨Nat.le_refl _, Nat.le_refl _⟩
  | succ n ih =>
    intro T hT hn os ho
    by_cases h0 : tn_ul T = []
    · rw [h0, pm_nil] at ho
      rw [List.mem_singleton.mp ho, h0]
      exact ⟨Nat.le_refl _, Nat.le_refl _⟩
    · rw [pm_cons h0] at ho
      obtain ⟨a, ha, ho⟩ := List.mem_flatMap.mp ho
      obtain ⟨q, hq, rfl⟩ := List.mem_map.mp ho
      have hl := filter_ne_len ha
      rw [← ul_bh] at hq hl
      obtain ⟨g1, g2⟩ := ih (tn_bh T a) (tn_bh_ok hT (ul_mem ha).1) (by omega) q hq
      have hc := tn_wd_le hT a
      obtain ⟨k1, k2⟩ := pc_or_dec (tn_wd T a) (tn_cb T)
      rw [cb_bh ha] at g1 g2
      rw [cn_cons]
      exact ⟨by omega, by omega⟩
theorem foldl_same {α γ : Type} {f : γ → α → γ} {p : γ} : ∀ {l : List α}, (∀ a ∈ l, f p a = p) → l.foldl f p = p
  | [], _ => rfl
  | a :: l, h => by
    rw [List.foldl_cons, h a List.mem_cons_self]
    exact foldl_same (fun b hb => h b (List.mem_cons_of_mem _ hb))
theorem pf_cut {mo : Bool} {T : tn_T} (hT : tn_ok T) {d n : Nat} (hn : (tn_ul T).length ≤ n) {p : Int32 × Nat} (h : cbb mo p.1 (tn_pc (tn_cb T)) (tn_ul T).length = false) : pf mo T d n (tn_ul T) p = p := by
  unfold pf
  refine foldl_same (fun os ho => ?_)
  obtain ⟨g1, g2⟩ := cn_le n T hT hn os ho
  have h12 : cn T os ≤ 12 := tn_pk_le _ 12
  have h13 : tn_pc (tn_cb T) ≤ 12 := tn_pk_le _ 12
  have hlen : (tn_ul T).length ≤ 7 := by
    have h1 := List.length_filter_le (tn_un T) (List.range (tn_L T))
    rw [List.length_range] at h1
    exact Nat.le_trans h1 hT.1
  unfold st1
  unfold cbb at h
  rw [if_neg]
  cases mo with
  | true =>
    rw [if_pos rfl] at h ⊢
    intro z
    exact absurd (Int32.lt_of_lt_of_le (of_decide_eq_true z) (nI_le g2 (by omega))) (of_decide_eq_false h)
  | false =>
    rw [if_neg (by decide)] at h ⊢
    intro z
    exact absurd (Int32.lt_of_le_of_lt (nI_le g1 (by omega)) (of_decide_eq_true z)) (of_decide_eq_false h)
/-- the other side's step, by which the first one always stays -/
def st2 (mo : Bool) (p : Int32 × Nat) (n d : Nat) : Int32 × Nat := if p.1 = -1 ∨ (if mo then decide (p.1 < nI n) else decide (nI n < p.1)) = true then (nI n, d) else p
theorem st2_st1 {mo : Bool} {p : Int32 × Nat} (h : ¬ p.1 = -1) (n d : Nat) : st2 mo p n d = st1 mo p n d := by
  unfold st2 st1
  by_cases c : (if mo then decide (p.1 < nI n) else decide (nI n < p.1)) = true
  · rw [if_pos c, if_pos (Or.inr c)]
  · rw [if_neg c, if_neg (fun z => z.elim h c)]
theorem st1_ne {mo : Bool} {p : Int32 × Nat} (h : ¬ p.1 = -1) {n : Nat} (hn : n < 2 ^ 31) (d : Nat) : ¬ (st1 mo p n d).1 = -1 := by
  unfold st1
  by_cases c : (if mo then decide (p.1 < nI n) else decide (nI n < p.1)) = true
  · rw [if_pos c]; exact nI_ne_m1 hn
  · rw [if_neg c]; exact h
theorem st2_fold (mo : Bool) (c e : List Nat → Nat) (hc : ∀ os, c os < 2 ^ 31) : ∀ (ps : List (List Nat)) (p : Int32 × Nat), ¬ p.1 = -1 → ps.foldl (fun p os => st2 mo p (c os) (e os)) p = ps.foldl (fun p os => st1 mo p (c os) (e os)) p
  | [], _, _ => rfl
  | os :: ps, p, h => by
    rw [List.foldl_cons, List.foldl_cons, st2_st1 h]
    exact st2_fold mo c e hc ps _ (st1_ne h (hc os) _)
theorem st_first (mo : Bool) {n : Nat} (hn : n ≤ 12) (d : Nat) : st2 mo (-1, 0) n d = (nI n, d) ∧ st1 mo (if mo then -1 else 2147483647, 0) n d = (nI n, d) := by
  refine ⟨if_pos (Or.inl rfl), ?_⟩
  unfold st1
  cases mo with
  | true =>
    have h : (-1 : Int32) < nI n := Int32.lt_of_lt_of_le (by decide) (nI_pos' (by omega))
    show (if decide ((-1 : Int32) < nI n) = true then (nI n, d) else _) = _
    rw [if_pos (decide_eq_true h)]
  | false =>
    have h : nI n < (2147483647 : Int32) := nI_lt (b := 2147483647) (by omega) (by decide)
    show (if decide (nI n < (2147483647 : Int32)) = true then (nI n, d) else _) = _
    rw [if_pos (decide_eq_true h)]
/-- what is written by a search -/
def ft (σ σ' : qm_St) : Prop := (∀ s, (s < 13 ∨ 17 ≤ s) → (s < 23 ∨ 25 ≤ s) → qm_rI σ' s = qm_rI σ s) ∧ ∀ r, (r < 23 ∨ 28 ≤ r) → ∀ k, qm_rF σ' r k = qm_rF σ r k
theorem ft.rf (σ : qm_St) : ft σ σ := ⟨fun _ _ _ => rfl, fun _ _ _ => rfl⟩
theorem ft.tr {a b c : qm_St} (h : ft a b) (g : ft b c) : ft a c := ⟨fun s h1 h2 => (g.1 s h1 h2).trans (h.1 s h1 h2), fun r h1 k => (g.2 r h1 k).trans (h.2 r h1 k)⟩
theorem ft.a {a b : qm_St} (h : sm a b 13 17 23 28) : ft a b := ⟨fun s h1 _ => h.1 s h1, fun r h1 k => h.2 r h1 k⟩
theorem ft.b {a b : qm_St} (h : sm a b 23 25 23 23) : ft a b := ⟨fun s _ h1 => h.1 s h1, fun r h1 k => h.2 r (by omega) k⟩
theorem ft.split {a c : qm_St} (h : ft a c) : ∃ b, sm a b 13 17 23 28 ∧ sm b c 23 25 39 39 := by
  refine ⟨(fun s => if 13 ≤ s ∧ s < 17 then c.1 s else a.1 s, c.2), ⟨fun s hs => if_neg (by omega), fun r hr k => h.2 r hr k⟩, ⟨fun s hs => ?_, fun r hr k => rfl⟩⟩
  show qm_rI c s = if 13 ≤ s ∧ s < 17 then c.1 s else a.1 s
  by_cases e : 13 ≤ s ∧ s < 17
  · rw [if_pos e]; rfl
  · rw [if_neg e]; exact h.1 s (by omega) hs

set_option maxHeartbeats 2000000 in
theorem c_canBeBetter {σ : qm_St} {mo : Bool} {best : Int32} (h1 : qm_rI σ 22 = b2i mo) (h2 : qm_rI σ 23 = best) {left cb : Nat} (hl : left < 128) (hc : cb < 4096) : Ok qm_lay 1 mX4_canBeBetter [.ref 50, .int (nI left), .int (nI cb)] σ (some (.int (b2i (cbb mo best (tn_pc cb) (tn_pc left))))) σ := by
  have hp1 := tn_pc_le cb hc
  have hp2 := tn_pc_7 left hl
  refine Ok.of (ls := [some (.ref 50), some (.int (nI left)), some (.int (nI cb)), none]) (Nat.le_of_ble_eq_true rfl) rfl ?_
  cases mo with
  | true =>
    refine ex_iload_n dX4_canBeBetter_0 rfl rfl ?_
    refine ex_callS (rest := []) dX4_canBeBetter_1 rfl qp_3_42 rfl rfl rfl (Nat.le_of_ble_eq_true rfl) ((c_bitCount _ _).eq (by rw [jk_bc_nI _ (by omega)]) rfl) (by omega) ?_
    show Ex qm_lay _ mX4_canBeBetter 4 [some (.ref 50), some (.int (nI left)), some (.int (nI cb)), none] [.int (nI (tn_pc cb))] σ _ _
    refine ex_istore_n (ls' := [some (.ref 50), some (.int (nI left)), some (.int (nI cb)), some (.int (nI (tn_pc cb)))]) dX4_canBeBetter_4 rfl (Nat.le_of_ble_eq_true rfl) rfl rfl ?_
    refine ex_aload_n dX4_canBeBetter_5 rfl rfl ?_
    refine ex_getI (s := 22) (x := b2i true) dX4_canBeBetter_6 rfl qp_3_9 rfl rfl (h1) ?_
    refine ex_if_eq (q := 33) (q2 := 12) dX4_canBeBetter_9 rfl rfl (fun hh => absurd hh (b2i_n0.mpr (rfl))) (fun _ => ?_)
    refine ex_iload_n dX4_canBeBetter_12 rfl rfl ?_
    refine ex_iload_n dX4_canBeBetter_13 rfl rfl ?_
    refine ex_callS (rest := [.int (nI (tn_pc cb))]) dX4_canBeBetter_14 rfl qp_3_42 rfl rfl rfl (Nat.le_of_ble_eq_true rfl) ((c_bitCount _ _).eq (by rw [jk_bc_nI _ (by omega)]) rfl) (by omega) ?_
    show Ex qm_lay _ mX4_canBeBetter 17 [some (.ref 50), some (.int (nI left)), some (.int (nI cb)), some (.int (nI (tn_pc cb)))] [.int (nI (tn_pc left)), .int (nI (tn_pc cb))] σ _ _
    refine ex_iadd (z := nI ((tn_pc cb) + (tn_pc left))) dX4_canBeBetter_17 rfl (nI_add (tn_pc cb) (tn_pc left)) ?_
    refine ex_aload_n dX4_canBeBetter_18 rfl rfl ?_
    refine ex_getI (s := 23) (x := best) dX4_canBeBetter_19 rfl qp_3_18 rfl rfl (h2) ?_
    refine ex_icmp_le (q := 29) (q2 := 25) dX4_canBeBetter_22 rfl rfl (fun h22 => ?_) (fun h22 => ?_)
    · have e1 : cbb true best (tn_pc cb) (tn_pc left) = false := decide_eq_false (Int32.not_lt.mpr h22)
      rw [e1]
      refine ex_iconst (x := 0) dX4_canBeBetter_29 rfl rfl ?_
      refine ex_goto (q := 46) dX4_canBeBetter_30 rfl ?_
      exact ex_zret dX4_canBeBetter_46 rfl (by decide) rfl rfl
    · have e1 : cbb true best (tn_pc cb) (tn_pc left) = true := decide_eq_true (Int32.not_le.mp h22)
      rw [e1]
      refine ex_iconst (x := 1) dX4_canBeBetter_25 rfl rfl ?_
      refine ex_goto (q := 46) dX4_canBeBetter_26 rfl ?_
      exact ex_zret dX4_canBeBetter_46 rfl (by decide) rfl rfl
  | false =>
    refine ex_iload_n dX4_canBeBetter_0 rfl rfl ?_
    refine ex_callS (rest := []) dX4_canBeBetter_1 rfl qp_3_42 rfl rfl rfl (Nat.le_of_ble_eq_true rfl) ((c_bitCount _ _).eq (by rw [jk_bc_nI _ (by omega)]) rfl) (by omega) ?_
    show Ex qm_lay _ mX4_canBeBetter 4 [some (.ref 50), some (.int (nI left)), some (.int (nI cb)), none] [.int (nI (tn_pc cb))] σ _ _
    refine ex_istore_n (ls' := [some (.ref 50), some (.int (nI left)), some (.int (nI cb)), some (.int (nI (tn_pc cb)))]) dX4_canBeBetter_4 rfl (Nat.le_of_ble_eq_true rfl) rfl rfl ?_
    refine ex_aload_n dX4_canBeBetter_5 rfl rfl ?_
    refine ex_getI (s := 22) (x := b2i false) dX4_canBeBetter_6 rfl qp_3_9 rfl rfl (h1) ?_
    refine ex_if_eq (q := 33) (q2 := 12) dX4_canBeBetter_9 rfl rfl (fun _ => ?_) (fun hh => absurd (b2i_0.mpr (rfl)) hh)
    refine ex_iload_n dX4_canBeBetter_33 rfl rfl ?_
    refine ex_aload_n dX4_canBeBetter_34 rfl rfl ?_
    refine ex_getI (s := 23) (x := best) dX4_canBeBetter_35 rfl qp_3_18 rfl rfl (h2) ?_
    refine ex_icmp_ge (q := 45) (q2 := 41) dX4_canBeBetter_38 rfl rfl (fun h38 => ?_) (fun h38 => ?_)
    · have e1 : cbb false best (tn_pc cb) (tn_pc left) = false := decide_eq_false (Int32.not_lt.mpr h38)
      rw [e1]
      refine ex_iconst (x := 0) dX4_canBeBetter_45 rfl rfl ?_
      exact ex_zret dX4_canBeBetter_46 rfl (by decide) rfl rfl
    · have e1 : cbb false best (tn_pc cb) (tn_pc left) = true := decide_eq_true (Int32.not_le.mp h38)
      rw [e1]
      refine ex_iconst (x := 1) dX4_canBeBetter_41 rfl rfl ?_
      refine ex_goto (q := 46) dX4_canBeBetter_42 rfl ?_
      exact ex_zret dX4_canBeBetter_46 rfl (by decide) rfl rfl

set_option maxHeartbeats 2000000 in
theorem l_tryAll (mo : Bool) (n : Nat) (IH : ∀ (T : tn_T) (dep d : Nat) (p : Int32 × Nat) (σ1 : qm_St), tn_ok T → TR σ1 13 23 T → qm_rI σ1 22 = b2i mo → qm_rI σ1 23 = p.1 → qm_rI σ1 24 = nI p.2 → (tn_ul T).length ≤ n → dep + (tn_ul T).length ≤ 7 → ∃ σ' v', Ok qm_lay (10 + n) mX4_tryAll [.ref 50, .ref 28, .int (nI dep), .int (nI (tn_nb T)), .int (nI (tn_cb T)), .int (nI d)] σ1 none σ' ∧ TR σ' 13 23 (tn_sn T v') ∧ qm_rI σ' 23 = (pf mo T d n (tn_ul T) p).1 ∧ qm_rI σ' 24 = nI (pf mo T d n (tn_ul T) p).2 ∧ ft σ1 σ') {T : tn_T} (hT : tn_ok T) {dep d : Nat} (hn : (tn_ul T).length ≤ n + 1) (hd : dep + (tn_ul T).length ≤ 7) : ∀ (r k : Nat) (x : Option Value) (v : Int32) (p : Int32 × Nat) (σ1 : qm_St), k + r = tn_L T → TR σ1 13 23 (tn_sn T v) → qm_rI σ1 22 = b2i mo → qm_rI σ1 23 = p.1 → qm_rI σ1 24 = nI p.2 → ∃ σ' v', Ex qm_lay (11 + n) mX4_tryAll 40 [some (.ref 50), some (.ref 28), some (.int (nI dep)), some (.int (nI (tn_nb T))), some (.int (nI (tn_cb T))), some (.int (nI d)), some (.int (nI k)), x] [] σ1 none σ' ∧ TR σ' 13 23 (tn_sn T v') ∧ qm_rI σ' 23 = (((List.range' k r).filter (tn_un T)).foldl (fun p a => pf mo (tn_bh T a) (10 * d + a + 1) n ((tn_ul T).filter fun b => decide (b ≠ a)) p) p).1 ∧ qm_rI σ' 24 = nI (((List.range' k r).filter (tn_un T)).foldl (fun p a => pf mo (tn_bh T a) (10 * d + a + 1) n ((tn_ul T).filter fun b => decide (b ≠ a)) p) p).2 ∧ ft σ1 σ' := by
  have hL := hT.1
  have hnb := tn_nb_bits hT
  have h128 : 2 ^ tn_L T ≤ 128 := Nat.pow_le_pow_right (n := 2) (by omega) hL
  have hnb7 : tn_nb T < 128 := by omega
  have hcb := tn_cb_lt hT
  intro r
  induction r with
  | zero =>
    intro k x v p σ1 hk h1 h22 h23 h24
    refine ⟨σ1, v, ?_, h1, h23, h24, ft.rf _⟩
    refine ex_iload dX4_tryAll_40 rfl rfl ?_
    refine ex_aload_n dX4_tryAll_42 rfl rfl ?_
    refine ex_getI (s := 13) (x := nI (tn_L T)) dX4_tryAll_43 rfl qp_3_46 rfl rfl (h1.1) ?_
    refine ex_icmp_ge (q := 111) (q2 := 49) dX4_tryAll_46 rfl rfl (fun _ => ?_) (fun hh => absurd (nI_le (a := (tn_L T)) (b := k) (by omega) (by omega)) hh)
    exact ex_vret dX4_tryAll_111 rfl rfl rfl
  | succ r ih =>
    intro k x v p σ1 hk h1 h22 h23 h24
    rw [List.range'_succ, List.filter_cons]
    have hkb := hnb.2 k (by omega)
    by_cases c1 : tn_un T k = true
    · rw [if_pos c1, List.foldl_cons]
      have hku : (tn_u T).testBit k = false := by
        unfold tn_un at c1
        cases hz : (tn_u T).testBit k with
        | false => rfl
        | true => rw [hz] at c1; cases c1
      have hkm : k ∈ tn_ul T := List.mem_filter.mpr ⟨List.mem_range.mpr (by omega), c1⟩
      rw [hku, decide_eq_true (show k < tn_L T by omega), Bool.not_false, Bool.and_true] at hkb
      have hv := sn_ok hT v
      obtain ⟨σ2, hO, hT2, hs2⟩ := c_buildHouse_1 hv h1 (show k < tn_L (tn_sn T v) by show k < tn_L T; omega)
      have hwd : tn_wd (tn_sn T v) k = tn_wd T k := rfl
      have hwd11 := tn_wd_le hT k
      have hlen := filter_ne_len hkm
      rw [← ul_bh] at hlen
      have hok2 := tn_bh_ok hv (show k < tn_L (tn_sn T v) by show k < tn_L T; omega)
      obtain ⟨σ3, v3, hO3, hT3, hb3, hd3, hf3⟩ := IH (tn_bh (tn_sn T v) k) (dep + 1) (10 * d + k + 1) p σ2 hok2 hT2 (by rw [hs2.1 _ (by omega)]; exact h22) (by rw [hs2.1 _ (by omega)]; exact h23) (by rw [hs2.1 _ (by omega)]; exact h24) (show (tn_ul (tn_bh T k)).length ≤ n by omega) (show dep + 1 + (tn_ul (tn_bh T k)).length ≤ 7 by omega)
      have ePF : pf mo (tn_bh (tn_sn T v) k) (10 * d + k + 1) n (tn_ul (tn_bh (tn_sn T v) k)) p = pf mo (tn_bh T k) (10 * d + k + 1) n ((tn_ul T).filter fun b => decide (b ≠ k)) p := by
        rw [← ul_bh]
        unfold pf
        congr 1
        funext q os
        rw [show cn (tn_bh (tn_sn T v) k) os = cn (tn_bh T k) os from cn_s2 os (tn_bh T k) (v + 1) (fun q => if q = k then v + 1 else tn_s T q)]
      rw [ePF] at hb3 hd3
      rw [show tn_nb (tn_bh (tn_sn T v) k) = tn_cl (tn_nb T) k from nb_bh hT hkm, show tn_cb (tn_bh (tn_sn T v) k) = tn_cb T ||| 2 ^ tn_wd T k from cb_bh hkm] at hO3
      have hL3 : tn_L (tn_sn (tn_bh (tn_sn T v) k) v3) = tn_L T := rfl
      obtain ⟨σ4, hO4, hT4, hs4⟩ := c_clearLot_1 (sn_ok hok2 v3) hT3 (show k < tn_L (tn_sn (tn_bh (tn_sn T v) k) v3) by rw [hL3]; omega)
      have hT5 := TR.undo hT hkm hT4
      obtain ⟨σ5, v5, hE, hT6, hb6, hd6, hf6⟩ := ih (k + 1) (some (.int (nI (tn_wd T k)))) v3 (pf mo (tn_bh T k) (10 * d + k + 1) n ((tn_ul T).filter fun b => decide (b ≠ k)) p) σ4 (by omega) hT5 (by rw [hs4.1 _ (by omega), hf3.1 _ (by omega) (by omega), hs2.1 _ (by omega)]; exact h22) (by rw [hs4.1 _ (by omega)]; exact hb3) (by rw [hs4.1 _ (by omega)]; exact hd3)
      refine ⟨σ5, v5, ?_, hT6, hb6, hd6, (((ft.a hs2).tr hf3).tr (ft.a hs4)).tr hf6⟩
      refine ex_iload dX4_tryAll_40 rfl rfl ?_
      refine ex_aload_n dX4_tryAll_42 rfl rfl ?_
      refine ex_getI (s := 13) (x := nI (tn_L T)) dX4_tryAll_43 rfl qp_3_46 rfl rfl (h1.1) ?_
      refine ex_icmp_ge (q := 111) (q2 := 49) dX4_tryAll_46 rfl rfl (fun hh => absurd hh (nI_ge (a := k) (b := (tn_L T)) (by omega) (by omega))) (fun _ => ?_)
      refine ex_iload_n dX4_tryAll_49 rfl rfl ?_
      refine ex_iload dX4_tryAll_50 rfl rfl ?_
      refine ex_ishr (z := (nI (tn_nb T)) >>> ((nI k) &&& 31)) dX4_tryAll_52 rfl (rfl) ?_
      refine ex_iconst (x := 1) dX4_tryAll_53 rfl rfl ?_
      refine ex_iand (z := b2i (Nat.testBit (tn_nb T) k)) dX4_tryAll_54 rfl (nI_bit (by omega) (by omega)) ?_
      refine ex_if_eq (q := 105) (q2 := 58) dX4_tryAll_55 rfl rfl (fun hh => absurd hh (b2i_n0.mpr (hkb))) (fun _ => ?_)
      refine ex_aload_n dX4_tryAll_58 rfl rfl ?_
      refine ex_iload dX4_tryAll_59 rfl rfl ?_
      refine ex_callV (a := 28) (rest := []) dX4_tryAll_61 rfl qp_3_49 rfl rfl rfl rfl rfl (Nat.le_of_ble_eq_true rfl) (hO) (by omega) ?_
      show Ex qm_lay _ mX4_tryAll 64 [some (.ref 50), some (.ref 28), some (.int (nI dep)), some (.int (nI (tn_nb T))), some (.int (nI (tn_cb T))), some (.int (nI d)), some (.int (nI k)), x] [.int (nI (tn_wd T k))] σ2 _ _
      refine ex_istore (ls' := [some (.ref 50), some (.ref 28), some (.int (nI dep)), some (.int (nI (tn_nb T))), some (.int (nI (tn_cb T))), some (.int (nI d)), some (.int (nI k)), some (.int (nI (tn_wd T k)))]) dX4_tryAll_64 rfl (Nat.le_of_ble_eq_true rfl) rfl rfl ?_
      refine ex_aload_n dX4_tryAll_66 rfl rfl ?_
      refine ex_aload_n dX4_tryAll_67 rfl rfl ?_
      refine ex_iload_n dX4_tryAll_68 rfl rfl ?_
      refine ex_iconst (x := 1) dX4_tryAll_69 rfl rfl ?_
      refine ex_iadd (z := nI (dep + 1)) dX4_tryAll_70 rfl (nI_add dep 1) ?_
      refine ex_iload_n dX4_tryAll_71 rfl rfl ?_
      refine ex_iconst (x := 1) dX4_tryAll_72 rfl rfl ?_
      refine ex_iload dX4_tryAll_73 rfl rfl ?_
      refine ex_ishl (z := nI (2 ^ k)) dX4_tryAll_75 rfl (nI_1shl (by omega)) ?_
      refine ex_iconst (x := (-1)) dX4_tryAll_76 rfl rfl ?_
      refine ex_ixor (z := (nI (2 ^ k)) ^^^ (-1)) dX4_tryAll_77 rfl (rfl) ?_
      refine ex_iand (z := nI (tn_cl (tn_nb T) k)) dX4_tryAll_78 rfl (tn_cls (by omega) (by omega)) ?_
      refine ex_iload dX4_tryAll_79 rfl rfl ?_
      refine ex_iconst (x := 1) dX4_tryAll_81 rfl rfl ?_
      refine ex_iload dX4_tryAll_82 rfl rfl ?_
      refine ex_ishl (z := nI (2 ^ (tn_wd T k))) dX4_tryAll_84 rfl (nI_1shl (by omega)) ?_
      refine ex_ior (z := nI ((tn_cb T) ||| (2 ^ (tn_wd T k)))) dX4_tryAll_85 rfl (nI_or _ _) ?_
      refine ex_iload dX4_tryAll_86 rfl rfl ?_
      refine ex_bipush (x := 10) dX4_tryAll_88 rfl rfl ?_
      refine ex_imul (z := nI (10 * d)) dX4_tryAll_90 rfl ((by rw [Nat.mul_comm]; exact pk_mul d 10)) ?_
      refine ex_iload dX4_tryAll_91 rfl rfl ?_
      refine ex_iadd (z := nI ((10 * d) + k)) dX4_tryAll_93 rfl (nI_add (10 * d) k) ?_
      refine ex_iconst (x := 1) dX4_tryAll_94 rfl rfl ?_
      refine ex_iadd (z := nI (((10 * d) + k) + 1)) dX4_tryAll_95 rfl (nI_add ((10 * d) + k) 1) ?_
      refine ex_callS (rest := []) dX4_tryAll_96 rfl qp_3_34 rfl rfl rfl (Nat.le_of_ble_eq_true rfl) (hO3) (by omega) ?_
      show Ex qm_lay _ mX4_tryAll 99 [some (.ref 50), some (.ref 28), some (.int (nI dep)), some (.int (nI (tn_nb T))), some (.int (nI (tn_cb T))), some (.int (nI d)), some (.int (nI k)), some (.int (nI (tn_wd T k)))] [] σ3 _ _
      refine ex_aload_n dX4_tryAll_99 rfl rfl ?_
      refine ex_iload dX4_tryAll_100 rfl rfl ?_
      refine ex_callV (a := 28) (rest := []) dX4_tryAll_102 rfl qp_3_52 rfl rfl rfl rfl rfl (Nat.le_of_ble_eq_true rfl) (hO4) (by omega) ?_
      show Ex qm_lay _ mX4_tryAll 105 [some (.ref 50), some (.ref 28), some (.int (nI dep)), some (.int (nI (tn_nb T))), some (.int (nI (tn_cb T))), some (.int (nI d)), some (.int (nI k)), some (.int (nI (tn_wd T k)))] [] σ4 _ _
      refine ex_iinc (y := nI (k + 1)) (ls' := [some (.ref 50), some (.ref 28), some (.int (nI dep)), some (.int (nI (tn_nb T))), some (.int (nI (tn_cb T))), some (.int (nI d)), some (.int (nI (k + 1))), some (.int (nI (tn_wd T k)))]) dX4_tryAll_105 rfl rfl rfl (nI_add k 1) rfl ?_
      refine ex_goto (q := 40) dX4_tryAll_108 rfl ?_
      exact hE
    · rw [if_neg c1]
      have hku : (tn_u T).testBit k = true := by
        unfold tn_un at c1
        cases hz : (tn_u T).testBit k with
        | true => rfl
        | false => rw [hz] at c1; exact absurd rfl c1
      rw [hku, Bool.not_true, Bool.and_false] at hkb
      obtain ⟨σ5, v5, hE, hT6, hb6, hd6, hf6⟩ := ih (k + 1) x v p σ1 (by omega) h1 h22 h23 h24
      refine ⟨σ5, v5, ?_, hT6, hb6, hd6, hf6⟩
      refine ex_iload dX4_tryAll_40 rfl rfl ?_
      refine ex_aload_n dX4_tryAll_42 rfl rfl ?_
      refine ex_getI (s := 13) (x := nI (tn_L T)) dX4_tryAll_43 rfl qp_3_46 rfl rfl (h1.1) ?_
      refine ex_icmp_ge (q := 111) (q2 := 49) dX4_tryAll_46 rfl rfl (fun hh => absurd hh (nI_ge (a := k) (b := (tn_L T)) (by omega) (by omega))) (fun _ => ?_)
      refine ex_iload_n dX4_tryAll_49 rfl rfl ?_
      refine ex_iload dX4_tryAll_50 rfl rfl ?_
      refine ex_ishr (z := (nI (tn_nb T)) >>> ((nI k) &&& 31)) dX4_tryAll_52 rfl (rfl) ?_
      refine ex_iconst (x := 1) dX4_tryAll_53 rfl rfl ?_
      refine ex_iand (z := b2i (Nat.testBit (tn_nb T) k)) dX4_tryAll_54 rfl (nI_bit (by omega) (by omega)) ?_
      refine ex_if_eq (q := 105) (q2 := 58) dX4_tryAll_55 rfl rfl (fun _ => ?_) (fun hh => absurd (b2i_0.mpr (hkb)) hh)
      refine ex_iinc (y := nI (k + 1)) (ls' := [some (.ref 50), some (.ref 28), some (.int (nI dep)), some (.int (nI (tn_nb T))), some (.int (nI (tn_cb T))), some (.int (nI d)), some (.int (nI (k + 1))), x]) dX4_tryAll_105 rfl rfl rfl (nI_add k 1) rfl ?_
      refine ex_goto (q := 40) dX4_tryAll_108 rfl ?_
      exact hE

set_option maxHeartbeats 2000000 in
theorem c_tryAll (mo : Bool) : ∀ (n : Nat), ∀ (T : tn_T) (dep d : Nat) (p : Int32 × Nat) (σ1 : qm_St), tn_ok T → TR σ1 13 23 T → qm_rI σ1 22 = b2i mo → qm_rI σ1 23 = p.1 → qm_rI σ1 24 = nI p.2 → (tn_ul T).length ≤ n → dep + (tn_ul T).length ≤ 7 → ∃ σ' v', Ok qm_lay (10 + n) mX4_tryAll [.ref 50, .ref 28, .int (nI dep), .int (nI (tn_nb T)), .int (nI (tn_cb T)), .int (nI d)] σ1 none σ' ∧ TR σ' 13 23 (tn_sn T v') ∧ qm_rI σ' 23 = (pf mo T d n (tn_ul T) p).1 ∧ qm_rI σ' 24 = nI (pf mo T d n (tn_ul T) p).2 ∧ ft σ1 σ' := by
  intro n
  induction n with
  | zero =>
    intro T dep d p σ1 hT h1 h22 h23 h24 hn hd
    have hL := hT.1
    have hnb := tn_nb_bits hT
    have h128 : 2 ^ tn_L T ≤ 128 := Nat.pow_le_pow_right (n := 2) (by omega) hL
    have hnb7 : tn_nb T < 128 := by omega
    have hcb := tn_cb_lt hT
    have hlen := ul_len hT
    have hCB := c_canBeBetter h22 h23 hnb7 hcb
    rw [← hlen] at hCB
    by_cases c1 : cbb mo p.1 (tn_pc (tn_cb T)) (tn_ul T).length = true
    · have e0 : tn_ul T = [] := List.eq_nil_of_length_eq_zero (by omega)
      have hz : tn_nb T = 0 := tn_pc_0 _ hnb7 (by rw [← hlen, e0]; rfl)
      have ep : pf mo T d 0 (tn_ul T) p = (nI (tn_pc (tn_cb T)), d) := by
        rw [e0, pf_nil, st1, if_pos]
        have c2 := c1
        rw [e0] at c2
        unfold cbb at c2
        exact c2
      rw [ep]
      refine ⟨_, tn_n T, ?_, ?_, ?_, ?_, ft.b (((sm.rf σ1 23 25 23 23).wI (s := 23) (nI (tn_pc (tn_cb T))) (by omega)).wI (s := 24) (nI d) (by omega))⟩
      · refine Ok.of (ls := [some (.ref 50), some (.ref 28), some (.int (nI dep)), some (.int (nI (tn_nb T))), some (.int (nI (tn_cb T))), some (.int (nI d)), none, none]) (Nat.le_of_ble_eq_true rfl) rfl ?_
        refine ex_iload_n dX4_tryAll_0 rfl rfl ?_
        refine ex_bipush (x := 7) dX4_tryAll_1 rfl rfl ?_
        refine ex_icmp_gt (q := 16) (q2 := 6) dX4_tryAll_3 rfl rfl (fun hh => absurd hh (nI_nlt (a := 7) (b := dep) (by omega) (by omega))) (fun _ => ?_)
        refine ex_aload_n dX4_tryAll_6 rfl rfl ?_
        refine ex_iload_n dX4_tryAll_7 rfl rfl ?_
        refine ex_iload dX4_tryAll_8 rfl rfl ?_
        refine ex_callV (a := 50) (rest := []) dX4_tryAll_10 rfl qp_3_38 rfl rfl rfl rfl rfl (Nat.le_of_ble_eq_true rfl) (hCB) (by omega) ?_
        show Ex qm_lay _ mX4_tryAll 13 [some (.ref 50), some (.ref 28), some (.int (nI dep)), some (.int (nI (tn_nb T))), some (.int (nI (tn_cb T))), some (.int (nI d)), none, none] [.int (b2i (cbb mo p.1 (tn_pc (tn_cb T)) (tn_ul T).length))] σ1 _ _
        refine ex_if_ne (q := 17) (q2 := 16) dX4_tryAll_13 rfl rfl (fun _ => ?_) (fun hh => absurd (b2i_n0.mpr (c1)) hh)
        refine ex_iload_n dX4_tryAll_17 rfl rfl ?_
        refine ex_if_ne (q := 37) (q2 := 21) dX4_tryAll_18 rfl rfl (fun hh => absurd hh (fun zz => zz (by rw [hz]; rfl))) (fun _ => ?_)
        refine ex_aload_n dX4_tryAll_21 rfl rfl ?_
        refine ex_iload dX4_tryAll_22 rfl rfl ?_
        refine ex_callS (rest := [.ref 50]) dX4_tryAll_24 rfl qp_3_42 rfl rfl rfl (Nat.le_of_ble_eq_true rfl) ((c_bitCount _ _).eq (by rw [jk_bc_nI _ (by omega)]) rfl) (by omega) ?_
        show Ex qm_lay _ mX4_tryAll 27 [some (.ref 50), some (.ref 28), some (.int (nI dep)), some (.int (nI (tn_nb T))), some (.int (nI (tn_cb T))), some (.int (nI d)), none, none] [.int (nI (tn_pc (tn_cb T))), .ref 50] σ1 _ _
        refine ex_put (σ' := qm_wI σ1 23 (nI (tn_pc (tn_cb T)))) dX4_tryAll_27 rfl qp_3_18 rfl rfl (Or.inl rfl) rfl ?_
        refine ex_aload_n dX4_tryAll_30 rfl rfl ?_
        refine ex_iload dX4_tryAll_31 rfl rfl ?_
        refine ex_put (σ' := qm_wI (qm_wI σ1 23 (nI (tn_pc (tn_cb T)))) 24 (nI d)) dX4_tryAll_33 rfl qp_3_22 rfl rfl (Or.inl rfl) rfl ?_
        exact ex_vret dX4_tryAll_36 rfl rfl rfl
      · exact h1.sm (((sm.rf σ1 23 25 23 23).wI (s := 23) (nI (tn_pc (tn_cb T))) (by omega)).wI (s := 24) (nI d) (by omega)) (by omega) (by omega)
      · rw [rI_wI, if_neg (by decide), rI_wI, if_pos rfl]
      · rw [rI_wI, if_pos rfl]
    · have c2 : cbb mo p.1 (tn_pc (tn_cb T)) (tn_ul T).length = false := by simpa using c1
      rw [pf_cut hT hn c2]
      refine ⟨σ1, tn_n T, ?_, h1, h23, h24, ft.rf _⟩
      refine Ok.of (ls := [some (.ref 50), some (.ref 28), some (.int (nI dep)), some (.int (nI (tn_nb T))), some (.int (nI (tn_cb T))), some (.int (nI d)), none, none]) (Nat.le_of_ble_eq_true rfl) rfl ?_
      refine ex_iload_n dX4_tryAll_0 rfl rfl ?_
      refine ex_bipush (x := 7) dX4_tryAll_1 rfl rfl ?_
      refine ex_icmp_gt (q := 16) (q2 := 6) dX4_tryAll_3 rfl rfl (fun hh => absurd hh (nI_nlt (a := 7) (b := dep) (by omega) (by omega))) (fun _ => ?_)
      refine ex_aload_n dX4_tryAll_6 rfl rfl ?_
      refine ex_iload_n dX4_tryAll_7 rfl rfl ?_
      refine ex_iload dX4_tryAll_8 rfl rfl ?_
      refine ex_callV (a := 50) (rest := []) dX4_tryAll_10 rfl qp_3_38 rfl rfl rfl rfl rfl (Nat.le_of_ble_eq_true rfl) (hCB) (by omega) ?_
      show Ex qm_lay _ mX4_tryAll 13 [some (.ref 50), some (.ref 28), some (.int (nI dep)), some (.int (nI (tn_nb T))), some (.int (nI (tn_cb T))), some (.int (nI d)), none, none] [.int (b2i (cbb mo p.1 (tn_pc (tn_cb T)) (tn_ul T).length))] σ1 _ _
      refine ex_if_ne (q := 17) (q2 := 16) dX4_tryAll_13 rfl rfl (fun hh => absurd hh (fun zz => zz (b2i_0.mpr (c2)))) (fun _ => ?_)
      exact ex_vret dX4_tryAll_16 rfl rfl rfl
  | succ n IH =>
    intro T dep d p σ1 hT h1 h22 h23 h24 hn hd
    have hL := hT.1
    have hnb := tn_nb_bits hT
    have h128 : 2 ^ tn_L T ≤ 128 := Nat.pow_le_pow_right (n := 2) (by omega) hL
    have hnb7 : tn_nb T < 128 := by omega
    have hcb := tn_cb_lt hT
    have hlen := ul_len hT
    have hCB := c_canBeBetter h22 h23 hnb7 hcb
    rw [← hlen] at hCB
    by_cases c1 : cbb mo p.1 (tn_pc (tn_cb T)) (tn_ul T).length = true
    · by_cases e0 : tn_ul T = []
      · skip
        have hz : tn_nb T = 0 := tn_pc_0 _ hnb7 (by rw [← hlen, e0]; rfl)
        have ep : pf mo T d (n + 1) (tn_ul T) p = (nI (tn_pc (tn_cb T)), d) := by
          rw [e0, pf_nil, st1, if_pos]
          have c2 := c1
          rw [e0] at c2
          unfold cbb at c2
          exact c2
        rw [ep]
        refine ⟨_, tn_n T, ?_, ?_, ?_, ?_, ft.b (((sm.rf σ1 23 25 23 23).wI (s := 23) (nI (tn_pc (tn_cb T))) (by omega)).wI (s := 24) (nI d) (by omega))⟩
        · refine Ok.of (ls := [some (.ref 50), some (.ref 28), some (.int (nI dep)), some (.int (nI (tn_nb T))), some (.int (nI (tn_cb T))), some (.int (nI d)), none, none]) (Nat.le_of_ble_eq_true rfl) rfl ?_
          refine ex_iload_n dX4_tryAll_0 rfl rfl ?_
          refine ex_bipush (x := 7) dX4_tryAll_1 rfl rfl ?_
          refine ex_icmp_gt (q := 16) (q2 := 6) dX4_tryAll_3 rfl rfl (fun hh => absurd hh (nI_nlt (a := 7) (b := dep) (by omega) (by omega))) (fun _ => ?_)
          refine ex_aload_n dX4_tryAll_6 rfl rfl ?_
          refine ex_iload_n dX4_tryAll_7 rfl rfl ?_
          refine ex_iload dX4_tryAll_8 rfl rfl ?_
          refine ex_callV (a := 50) (rest := []) dX4_tryAll_10 rfl qp_3_38 rfl rfl rfl rfl rfl (Nat.le_of_ble_eq_true rfl) (hCB) (by omega) ?_
          show Ex qm_lay _ mX4_tryAll 13 [some (.ref 50), some (.ref 28), some (.int (nI dep)), some (.int (nI (tn_nb T))), some (.int (nI (tn_cb T))), some (.int (nI d)), none, none] [.int (b2i (cbb mo p.1 (tn_pc (tn_cb T)) (tn_ul T).length))] σ1 _ _
          refine ex_if_ne (q := 17) (q2 := 16) dX4_tryAll_13 rfl rfl (fun _ => ?_) (fun hh => absurd (b2i_n0.mpr (c1)) hh)
          refine ex_iload_n dX4_tryAll_17 rfl rfl ?_
          refine ex_if_ne (q := 37) (q2 := 21) dX4_tryAll_18 rfl rfl (fun hh => absurd hh (fun zz => zz (by rw [hz]; rfl))) (fun _ => ?_)
          refine ex_aload_n dX4_tryAll_21 rfl rfl ?_
          refine ex_iload dX4_tryAll_22 rfl rfl ?_
          refine ex_callS (rest := [.ref 50]) dX4_tryAll_24 rfl qp_3_42 rfl rfl rfl (Nat.le_of_ble_eq_true rfl) ((c_bitCount _ _).eq (by rw [jk_bc_nI _ (by omega)]) rfl) (by omega) ?_
          show Ex qm_lay _ mX4_tryAll 27 [some (.ref 50), some (.ref 28), some (.int (nI dep)), some (.int (nI (tn_nb T))), some (.int (nI (tn_cb T))), some (.int (nI d)), none, none] [.int (nI (tn_pc (tn_cb T))), .ref 50] σ1 _ _
          refine ex_put (σ' := qm_wI σ1 23 (nI (tn_pc (tn_cb T)))) dX4_tryAll_27 rfl qp_3_18 rfl rfl (Or.inl rfl) rfl ?_
          refine ex_aload_n dX4_tryAll_30 rfl rfl ?_
          refine ex_iload dX4_tryAll_31 rfl rfl ?_
          refine ex_put (σ' := qm_wI (qm_wI σ1 23 (nI (tn_pc (tn_cb T)))) 24 (nI d)) dX4_tryAll_33 rfl qp_3_22 rfl rfl (Or.inl rfl) rfl ?_
          exact ex_vret dX4_tryAll_36 rfl rfl rfl
        · exact h1.sm (((sm.rf σ1 23 25 23 23).wI (s := 23) (nI (tn_pc (tn_cb T))) (by omega)).wI (s := 24) (nI d) (by omega)) (by omega) (by omega)
        · rw [rI_wI, if_neg (by decide), rI_wI, if_pos rfl]
        · rw [rI_wI, if_pos rfl]
      · have hz : ¬ tn_nb T = 0 := fun z => e0 (List.eq_nil_of_length_eq_zero (by rw [hlen, z]; rfl))
        rw [pf_cons mo T d n e0 p]
        obtain ⟨σ', v', hE, g1, g2, g3, g4⟩ := l_tryAll mo n IH hT hn hd (tn_L T) 0 none (tn_n T) p σ1 (by omega) h1 h22 h23 h24
        rw [← List.range_eq_range'] at g2 g3
        refine ⟨σ', v', ?_, g1, g2, g3, g4⟩
        rw [show 10 + (n + 1) = 11 + n by omega]
        refine Ok.of (ls := [some (.ref 50), some (.ref 28), some (.int (nI dep)), some (.int (nI (tn_nb T))), some (.int (nI (tn_cb T))), some (.int (nI d)), none, none]) (Nat.le_of_ble_eq_true rfl) rfl ?_
        refine ex_iload_n dX4_tryAll_0 rfl rfl ?_
        refine ex_bipush (x := 7) dX4_tryAll_1 rfl rfl ?_
        refine ex_icmp_gt (q := 16) (q2 := 6) dX4_tryAll_3 rfl rfl (fun hh => absurd hh (nI_nlt (a := 7) (b := dep) (by omega) (by omega))) (fun _ => ?_)
        refine ex_aload_n dX4_tryAll_6 rfl rfl ?_
        refine ex_iload_n dX4_tryAll_7 rfl rfl ?_
        refine ex_iload dX4_tryAll_8 rfl rfl ?_
        refine ex_callV (a := 50) (rest := []) dX4_tryAll_10 rfl qp_3_38 rfl rfl rfl rfl rfl (Nat.le_of_ble_eq_true rfl) (hCB) (by omega) ?_
        show Ex qm_lay _ mX4_tryAll 13 [some (.ref 50), some (.ref 28), some (.int (nI dep)), some (.int (nI (tn_nb T))), some (.int (nI (tn_cb T))), some (.int (nI d)), none, none] [.int (b2i (cbb mo p.1 (tn_pc (tn_cb T)) (tn_ul T).length))] σ1 _ _
        refine ex_if_ne (q := 17) (q2 := 16) dX4_tryAll_13 rfl rfl (fun _ => ?_) (fun hh => absurd (b2i_n0.mpr (c1)) hh)
        refine ex_iload_n dX4_tryAll_17 rfl rfl ?_
        refine ex_if_ne (q := 37) (q2 := 21) dX4_tryAll_18 rfl rfl (fun _ => ?_) (fun hh => absurd (fun zz => absurd ((nI_eq (b := 0) (by omega) (by decide)).mp zz) hz) hh)
        refine ex_iconst (x := 0) dX4_tryAll_37 rfl rfl ?_
        refine ex_istore (ls' := [some (.ref 50), some (.ref 28), some (.int (nI dep)), some (.int (nI (tn_nb T))), some (.int (nI (tn_cb T))), some (.int (nI d)), some (.int 0), none]) dX4_tryAll_38 rfl (Nat.le_of_ble_eq_true rfl) rfl rfl ?_
        exact hE
    · have c2 : cbb mo p.1 (tn_pc (tn_cb T)) (tn_ul T).length = false := by simpa using c1
      rw [pf_cut hT hn c2]
      refine ⟨σ1, tn_n T, ?_, h1, h23, h24, ft.rf _⟩
      refine Ok.of (ls := [some (.ref 50), some (.ref 28), some (.int (nI dep)), some (.int (nI (tn_nb T))), some (.int (nI (tn_cb T))), some (.int (nI d)), none, none]) (Nat.le_of_ble_eq_true rfl) rfl ?_
      refine ex_iload_n dX4_tryAll_0 rfl rfl ?_
      refine ex_bipush (x := 7) dX4_tryAll_1 rfl rfl ?_
      refine ex_icmp_gt (q := 16) (q2 := 6) dX4_tryAll_3 rfl rfl (fun hh => absurd hh (nI_nlt (a := 7) (b := dep) (by omega) (by omega))) (fun _ => ?_)
      refine ex_aload_n dX4_tryAll_6 rfl rfl ?_
      refine ex_iload_n dX4_tryAll_7 rfl rfl ?_
      refine ex_iload dX4_tryAll_8 rfl rfl ?_
      refine ex_callV (a := 50) (rest := []) dX4_tryAll_10 rfl qp_3_38 rfl rfl rfl rfl rfl (Nat.le_of_ble_eq_true rfl) (hCB) (by omega) ?_
      show Ex qm_lay _ mX4_tryAll 13 [some (.ref 50), some (.ref 28), some (.int (nI dep)), some (.int (nI (tn_nb T))), some (.int (nI (tn_cb T))), some (.int (nI d)), none, none] [.int (b2i (cbb mo p.1 (tn_pc (tn_cb T)) (tn_ul T).length))] σ1 _ _
      refine ex_if_ne (q := 17) (q2 := 16) dX4_tryAll_13 rfl rfl (fun hh => absurd hh (fun zz => zz (b2i_0.mpr (c2)))) (fun _ => ?_)
      exact ex_vret dX4_tryAll_16 rfl rfl rfl

set_option maxHeartbeats 2000000 in
theorem c_run_true {σ : qm_St} {T : tn_T} (hT : tn_ok T) (h : TR σ 13 23 T) : ∃ σ' v', Ok qm_lay 20 mX4_run [.ref 50, .ref 28, .int 1] σ none σ' ∧ TR σ' 13 23 (tn_sn T v') ∧ qm_rI σ' 23 = (pf true T 0 7 (tn_ul T) ((-1), 0)).1 ∧ qm_rI σ' 24 = nI (pf true T 0 7 (tn_ul T) ((-1), 0)).2 ∧ (∃ σ1, sm σ σ1 22 25 39 39 ∧ ft σ1 σ') := by
  have hs1 : sm σ (qm_wI (qm_wI (qm_wI σ 22 1) 23 (-1)) 24 0) 22 25 39 39 := (((sm.rf σ 22 25 39 39).wI _ (by omega)).wI _ (by omega)).wI _ (by omega)
  have h1 := h.sm hs1 (by omega) (by omega)
  have hL := hT.1
  have hl7 : (tn_ul T).length ≤ 7 := by
    have h1 := List.length_filter_le (tn_un T) (List.range (tn_L T))
    rw [List.length_range] at h1
    exact Nat.le_trans h1 hT.1
  obtain ⟨σ', v', hO, g1, g2, g3, g4⟩ := c_tryAll true 7 T 0 0 ((-1), 0) _ hT h1 rfl rfl rfl hl7 (by omega)
  refine ⟨σ', v', ?_, g1, g2, g3, ⟨_, hs1, g4⟩⟩
  refine Ok.of (ls := [some (.ref 50), some (.ref 28), some (.int 1)]) (Nat.le_of_ble_eq_true rfl) rfl ?_
  refine ex_aload_n dX4_run_0 rfl rfl ?_
  refine ex_iload_n dX4_run_1 rfl rfl ?_
  refine ex_put (σ' := qm_wI σ 22 1) dX4_run_2 rfl qp_3_9 rfl rfl (Or.inr ⟨rfl, by decide⟩) rfl ?_
  refine ex_aload_n dX4_run_5 rfl rfl ?_
  refine ex_iload_n dX4_run_6 rfl rfl ?_
  refine ex_if_eq (q := 14) (q2 := 10) dX4_run_7 rfl rfl (fun hh => absurd hh (by decide)) (fun _ => ?_)
  refine ex_iconst (x := (-1)) dX4_run_10 rfl rfl ?_
  refine ex_goto (q := 16) dX4_run_11 rfl ?_
  refine ex_put (σ' := qm_wI (qm_wI σ 22 1) 23 (-1)) dX4_run_16 rfl qp_3_18 rfl rfl (Or.inl rfl) rfl ?_
  refine ex_aload_n dX4_run_19 rfl rfl ?_
  refine ex_iconst (x := 0) dX4_run_20 rfl rfl ?_
  refine ex_put (σ' := qm_wI (qm_wI (qm_wI σ 22 1) 23 (-1)) 24 0) dX4_run_21 rfl qp_3_22 rfl rfl (Or.inl rfl) rfl ?_
  refine ex_aload_n dX4_run_24 rfl rfl ?_
  refine ex_aload_n dX4_run_25 rfl rfl ?_
  refine ex_iconst (x := 0) dX4_run_26 rfl rfl ?_
  refine ex_aload_n dX4_run_27 rfl rfl ?_
  refine ex_callV (a := 28) (rest := [.int 0, .ref 28, .ref 50]) dX4_run_28 rfl qp_3_25 rfl rfl rfl rfl rfl (Nat.le_of_ble_eq_true rfl) (c_unbuiltBits_1 hT h1) (Nat.le_of_ble_eq_true rfl) ?_
  show Ex qm_lay _ mX4_run 31 [some (.ref 50), some (.ref 28), some (.int 1)] [.int (nI (tn_nb T)), .int 0, .ref 28, .ref 50] (qm_wI (qm_wI (qm_wI σ 22 1) 23 (-1)) 24 0) _ _
  refine ex_aload_n dX4_run_31 rfl rfl ?_
  refine ex_callV (a := 28) (rest := [.int (nI (tn_nb T)), .int 0, .ref 28, .ref 50]) dX4_run_32 rfl qp_3_31 rfl rfl rfl rfl rfl (Nat.le_of_ble_eq_true rfl) (c_colourBits_1 hT h1) (Nat.le_of_ble_eq_true rfl) ?_
  show Ex qm_lay _ mX4_run 35 [some (.ref 50), some (.ref 28), some (.int 1)] [.int (nI (tn_cb T)), .int (nI (tn_nb T)), .int 0, .ref 28, .ref 50] (qm_wI (qm_wI (qm_wI σ 22 1) 23 (-1)) 24 0) _ _
  refine ex_iconst (x := 0) dX4_run_35 rfl rfl ?_
  refine ex_callS (rest := []) dX4_run_36 rfl qp_3_34 rfl rfl rfl (Nat.le_of_ble_eq_true rfl) (hO) (Nat.le_of_ble_eq_true rfl) ?_
  show Ex qm_lay _ mX4_run 39 [some (.ref 50), some (.ref 28), some (.int 1)] [] σ' _ _
  exact ex_vret dX4_run_39 rfl rfl rfl

set_option maxHeartbeats 2000000 in
theorem c_run_false {σ : qm_St} {T : tn_T} (hT : tn_ok T) (h : TR σ 13 23 T) : ∃ σ' v', Ok qm_lay 20 mX4_run [.ref 50, .ref 28, .int 0] σ none σ' ∧ TR σ' 13 23 (tn_sn T v') ∧ qm_rI σ' 23 = (pf false T 0 7 (tn_ul T) (2147483647, 0)).1 ∧ qm_rI σ' 24 = nI (pf false T 0 7 (tn_ul T) (2147483647, 0)).2 ∧ (∃ σ1, sm σ σ1 22 25 39 39 ∧ ft σ1 σ') := by
  have hs1 : sm σ (qm_wI (qm_wI (qm_wI σ 22 0) 23 2147483647) 24 0) 22 25 39 39 := (((sm.rf σ 22 25 39 39).wI _ (by omega)).wI _ (by omega)).wI _ (by omega)
  have h1 := h.sm hs1 (by omega) (by omega)
  have hL := hT.1
  have hl7 : (tn_ul T).length ≤ 7 := by
    have h1 := List.length_filter_le (tn_un T) (List.range (tn_L T))
    rw [List.length_range] at h1
    exact Nat.le_trans h1 hT.1
  obtain ⟨σ', v', hO, g1, g2, g3, g4⟩ := c_tryAll false 7 T 0 0 (2147483647, 0) _ hT h1 rfl rfl rfl hl7 (by omega)
  refine ⟨σ', v', ?_, g1, g2, g3, ⟨_, hs1, g4⟩⟩
  refine Ok.of (ls := [some (.ref 50), some (.ref 28), some (.int 0)]) (Nat.le_of_ble_eq_true rfl) rfl ?_
  refine ex_aload_n dX4_run_0 rfl rfl ?_
  refine ex_iload_n dX4_run_1 rfl rfl ?_
  refine ex_put (σ' := qm_wI σ 22 0) dX4_run_2 rfl qp_3_9 rfl rfl (Or.inr ⟨rfl, by decide⟩) rfl ?_
  refine ex_aload_n dX4_run_5 rfl rfl ?_
  refine ex_iload_n dX4_run_6 rfl rfl ?_
  refine ex_if_eq (q := 14) (q2 := 10) dX4_run_7 rfl rfl (fun _ => ?_) (fun hh => absurd (by decide) hh)
  refine ex_ldc (x := 2147483647) dX4_run_14 rfl qp_3_17 ?_
  refine ex_put (σ' := qm_wI (qm_wI σ 22 0) 23 2147483647) dX4_run_16 rfl qp_3_18 rfl rfl (Or.inl rfl) rfl ?_
  refine ex_aload_n dX4_run_19 rfl rfl ?_
  refine ex_iconst (x := 0) dX4_run_20 rfl rfl ?_
  refine ex_put (σ' := qm_wI (qm_wI (qm_wI σ 22 0) 23 2147483647) 24 0) dX4_run_21 rfl qp_3_22 rfl rfl (Or.inl rfl) rfl ?_
  refine ex_aload_n dX4_run_24 rfl rfl ?_
  refine ex_aload_n dX4_run_25 rfl rfl ?_
  refine ex_iconst (x := 0) dX4_run_26 rfl rfl ?_
  refine ex_aload_n dX4_run_27 rfl rfl ?_
  refine ex_callV (a := 28) (rest := [.int 0, .ref 28, .ref 50]) dX4_run_28 rfl qp_3_25 rfl rfl rfl rfl rfl (Nat.le_of_ble_eq_true rfl) (c_unbuiltBits_1 hT h1) (Nat.le_of_ble_eq_true rfl) ?_
  show Ex qm_lay _ mX4_run 31 [some (.ref 50), some (.ref 28), some (.int 0)] [.int (nI (tn_nb T)), .int 0, .ref 28, .ref 50] (qm_wI (qm_wI (qm_wI σ 22 0) 23 2147483647) 24 0) _ _
  refine ex_aload_n dX4_run_31 rfl rfl ?_
  refine ex_callV (a := 28) (rest := [.int (nI (tn_nb T)), .int 0, .ref 28, .ref 50]) dX4_run_32 rfl qp_3_31 rfl rfl rfl rfl rfl (Nat.le_of_ble_eq_true rfl) (c_colourBits_1 hT h1) (Nat.le_of_ble_eq_true rfl) ?_
  show Ex qm_lay _ mX4_run 35 [some (.ref 50), some (.ref 28), some (.int 0)] [.int (nI (tn_cb T)), .int (nI (tn_nb T)), .int 0, .ref 28, .ref 50] (qm_wI (qm_wI (qm_wI σ 22 0) 23 2147483647) 24 0) _ _
  refine ex_iconst (x := 0) dX4_run_35 rfl rfl ?_
  refine ex_callS (rest := []) dX4_run_36 rfl qp_3_34 rfl rfl rfl (Nat.le_of_ble_eq_true rfl) (hO) (Nat.le_of_ble_eq_true rfl) ?_
  show Ex qm_lay _ mX4_run 39 [some (.ref 50), some (.ref 28), some (.int 0)] [] σ' _ _
  exact ex_vret dX4_run_39 rfl rfl rfl

theorem dg_lt {os : List Nat} (h7 : os.length ≤ 7) (h : ∀ l ∈ os, l < 7) : dg os < 2 ^ 31 := by
  have key : ∀ (os : List Nat) (d m : Nat), (∀ l ∈ os, l < 7) → d < 10 ^ m → os.foldl (fun d l => 10 * d + l + 1) d < 10 ^ (m + os.length) := by
    intro os
    induction os with
    | nil => intro d m _ hd; exact hd
    | cons a os ih =>
      intro d m hl hd
      rw [List.foldl_cons, List.length_cons, show m + (os.length + 1) = (m + 1) + os.length by omega]
      refine ih _ (m + 1) (fun l hl2 => hl l (List.mem_cons_of_mem _ hl2)) ?_
      have ha := hl a List.mem_cons_self
      have e : 10 ^ (m + 1) = 10 * 10 ^ m := by rw [Nat.pow_succ, Nat.mul_comm]
      rw [e]; omega
  have := key os 0 0 h (by decide)
  have h2 : 10 ^ (0 + os.length) ≤ 10 ^ 7 := Nat.pow_le_pow_right (by decide) (by omega)
  unfold dg
  exact Nat.lt_of_lt_of_le this (Nat.le_trans h2 (by decide))
set_option maxHeartbeats 2000000 in
theorem l_orderM0 {T : tn_T} {X : gx_T} {P : gt_T} {Im : gi_T} {S : gs_T} (hG : gg_ok (T, X, P, Im, S)) {q : Nat} (hq : q ≤ 1) : ∀ (ps : List (List Nat)) (os : List Nat) (x y : Option Value) (p : Int32 × Nat) (σ : qm_St), ch (os :: ps) = true → (∀ o ∈ os :: ps, ∀ l ∈ o, l < tn_L T) → p.2 < 2 ^ 31 → MG σ (T, X, P, Im, S) → RR σ os → ∃ σ', Ex qm_lay 100 mX9_order 37 [some (.ref 55), some (.int 0), some (.int (nI q)), some (.int p.1), some (.int (nI p.2)), some (.int 1), x, y] [] σ (some (.int (if q = 0 then ((os :: ps).foldl (fun p os => st2 false p (cn T os) (dg os)) p).1 else nI ((os :: ps).foldl (fun p os => st2 false p (cn T os) (dg os)) p).2))) σ' ∧ MG σ' (T, X, P, Im, S) ∧ sm σ σ' 27 46 42 62 := by
  have hT : tn_ok T := hG.1
  have hL := hT.1
  intro ps
  induction ps with
  | nil =>
    intro os x y p σ hch hel hp hM hor
    have hos := hel os List.mem_cons_self
    have h : MR σ T := hM.1
    obtain ⟨σ1, hO, hR, hs1⟩ := k_manyByRow hT h hor hos
    have hM1 := MG.thinkL (G := (T, X, P, Im, S)) hM hR ⟨fun s hs => hs1.1 s (by omega), fun r hr hr2 k => hs1.2 r (by omega) (by omega) k⟩
    have hs12 : sm σ σ1 27 46 42 62 := hs1.sm (by omega) (by omega) (by omega)
    have hor1 := hor.sl hs1
    have hcn : cn T os ≤ 12 := tn_pk_le _ 12
    obtain ⟨σ2, hO2, hR2, hs2⟩ := k_nextRow hor1 (fun l hl => Nat.lt_of_lt_of_le (hos l hl) hL)
    have hM2 := MG.aux hM1 (hs2.wid (i3 := 36) (i4 := 46) (j3 := 56) (j4 := 62) (by omega) (by omega))
    have hs13 : sm σ σ2 27 46 42 62 := hs12.tr (hs2.wid (by omega) (by omega))
    have hnx : nx os = none := of_decide_eq_true hch
    rw [hnx] at hO2
    refine ⟨σ2, ?_, hM2, hs13⟩
    rw [List.foldl_cons, List.foldl_nil]
    by_cases c1 : p.1 = -1
    · have e1 : st2 false p (cn T os) (dg os) = (nI (cn T os), dg os) := if_pos (Or.inl c1)
      rw [e1]
      refine ex_iload dX9_order_37 rfl rfl ?_
      refine ex_if_eq (q := 116) (q2 := 42) dX9_order_39 rfl rfl (fun hh => absurd hh (by decide)) (fun _ => ?_)
      refine ex_aload_n dX9_order_42 rfl rfl ?_
      refine ex_callV (a := 55) (rest := []) dX9_order_43 rfl qp_8_250 rfl rfl rfl rfl rfl (Nat.le_of_ble_eq_true rfl) (hO) (Nat.le_of_ble_eq_true rfl) ?_
      show Ex qm_lay _ mX9_order 46 [some (.ref 55), some (.int 0), some (.int (nI q)), some (.int p.1), some (.int (nI p.2)), some (.int 1), x, y] [.int (nI (cn T os))] σ1 _ _
      refine ex_istore (ls' := [some (.ref 55), some (.int 0), some (.int (nI q)), some (.int p.1), some (.int (nI p.2)), some (.int 1), some (.int (nI (cn T os))), y]) dX9_order_46 rfl (Nat.le_of_ble_eq_true rfl) rfl rfl ?_
      refine ex_iload_n dX9_order_48 rfl rfl ?_
      refine ex_iconst (x := (-1)) dX9_order_49 rfl rfl ?_
      refine ex_icmp_eq (q := 72) (q2 := 53) dX9_order_50 rfl rfl (fun _ => ?_) (fun hh => absurd (c1) hh)
      refine ex_iconst (x := 1) dX9_order_72 rfl rfl ?_
      refine ex_goto (q := 77) dX9_order_73 rfl ?_
      refine ex_istore (ls' := [some (.ref 55), some (.int 0), some (.int (nI q)), some (.int p.1), some (.int (nI p.2)), some (.int 1), some (.int (nI (cn T os))), some (.int 1)]) dX9_order_77 rfl (Nat.le_of_ble_eq_true rfl) rfl rfl ?_
      refine ex_iload dX9_order_79 rfl rfl ?_
      refine ex_if_eq (q := 91) (q2 := 84) dX9_order_81 rfl rfl (fun hh => absurd hh (by decide)) (fun _ => ?_)
      refine ex_aload_n dX9_order_84 rfl rfl ?_
      refine ex_callV (a := 55) (rest := []) dX9_order_85 rfl qp_8_253 rfl rfl rfl rfl rfl (Nat.le_of_ble_eq_true rfl) (k_rowDigits hor1) (Nat.le_of_ble_eq_true rfl) ?_
      show Ex qm_lay _ mX9_order 88 [some (.ref 55), some (.int 0), some (.int (nI q)), some (.int p.1), some (.int (nI p.2)), some (.int 1), some (.int (nI (cn T os))), some (.int 1)] [.int (nI (dg os))] σ1 _ _
      refine ex_goto (q := 93) dX9_order_88 rfl ?_
      refine ex_istore (ls' := [some (.ref 55), some (.int 0), some (.int (nI q)), some (.int p.1), some (.int (nI (dg os))), some (.int 1), some (.int (nI (cn T os))), some (.int 1)]) dX9_order_93 rfl (Nat.le_of_ble_eq_true rfl) rfl rfl ?_
      refine ex_iload dX9_order_95 rfl rfl ?_
      refine ex_if_eq (q := 105) (q2 := 100) dX9_order_97 rfl rfl (fun hh => absurd hh (by decide)) (fun _ => ?_)
      refine ex_iload dX9_order_100 rfl rfl ?_
      refine ex_goto (q := 106) dX9_order_102 rfl ?_
      refine ex_istore_n (ls' := [some (.ref 55), some (.int 0), some (.int (nI q)), some (.int (nI (cn T os))), some (.int (nI (dg os))), some (.int 1), some (.int (nI (cn T os))), some (.int 1)]) dX9_order_106 rfl (Nat.le_of_ble_eq_true rfl) rfl rfl ?_
      refine ex_aload_n dX9_order_107 rfl rfl ?_
      refine ex_callV (a := 55) (rest := []) dX9_order_108 rfl qp_8_256 rfl rfl rfl rfl rfl (Nat.le_of_ble_eq_true rfl) (hO2) (Nat.le_of_ble_eq_true rfl) ?_
      show Ex qm_lay _ mX9_order 111 [some (.ref 55), some (.int 0), some (.int (nI q)), some (.int (nI (cn T os))), some (.int (nI (dg os))), some (.int 1), some (.int (nI (cn T os))), some (.int 1)] [.int 0] σ2 _ _
      refine ex_istore (ls' := [some (.ref 55), some (.int 0), some (.int (nI q)), some (.int (nI (cn T os))), some (.int (nI (dg os))), some (.int 0), some (.int (nI (cn T os))), some (.int 1)]) dX9_order_111 rfl (Nat.le_of_ble_eq_true rfl) rfl rfl ?_
      refine ex_goto (q := 37) dX9_order_113 rfl ?_
      refine ex_iload dX9_order_37 rfl rfl ?_
      refine ex_if_eq (q := 116) (q2 := 42) dX9_order_39 rfl rfl (fun _ => ?_) (fun hh => absurd (by decide) hh)
      refine ex_iload_n dX9_order_116 rfl rfl ?_
      refine ex_if_ne (q := 124) (q2 := 120) dX9_order_117 rfl rfl (fun h117 => ?_) (fun h117 => ?_)
      · have hq0 : ¬ q = 0 := fun z => h117 (congrArg nI z)
        refine ex_iload dX9_order_124 rfl rfl ?_
        exact ex_iret dX9_order_126 rfl (by first | rw [if_neg hq0] | rw [if_pos hq0]) rfl
      · have hq0 : q = 0 := (nI_eq (b := 0) (by omega) (by decide)).mp (Decidable.not_not.mp h117)
        refine ex_iload_n dX9_order_120 rfl rfl ?_
        refine ex_goto (q := 126) dX9_order_121 rfl ?_
        exact ex_iret dX9_order_126 rfl (by first | rw [if_neg hq0] | rw [if_pos hq0]) rfl
    · by_cases c2 : nI (cn T os) < p.1
      · have e1 : st2 false p (cn T os) (dg os) = (nI (cn T os), dg os) := if_pos (Or.inr (decide_eq_true c2))
        rw [e1]
        refine ex_iload dX9_order_37 rfl rfl ?_
        refine ex_if_eq (q := 116) (q2 := 42) dX9_order_39 rfl rfl (fun hh => absurd hh (by decide)) (fun _ => ?_)
        refine ex_aload_n dX9_order_42 rfl rfl ?_
        refine ex_callV (a := 55) (rest := []) dX9_order_43 rfl qp_8_250 rfl rfl rfl rfl rfl (Nat.le_of_ble_eq_true rfl) (hO) (Nat.le_of_ble_eq_true rfl) ?_
        show Ex qm_lay _ mX9_order 46 [some (.ref 55), some (.int 0), some (.int (nI q)), some (.int p.1), some (.int (nI p.2)), some (.int 1), x, y] [.int (nI (cn T os))] σ1 _ _
        refine ex_istore (ls' := [some (.ref 55), some (.int 0), some (.int (nI q)), some (.int p.1), some (.int (nI p.2)), some (.int 1), some (.int (nI (cn T os))), y]) dX9_order_46 rfl (Nat.le_of_ble_eq_true rfl) rfl rfl ?_
        refine ex_iload_n dX9_order_48 rfl rfl ?_
        refine ex_iconst (x := (-1)) dX9_order_49 rfl rfl ?_
        refine ex_icmp_eq (q := 72) (q2 := 53) dX9_order_50 rfl rfl (fun hh => absurd hh (c1)) (fun _ => ?_)
        refine ex_iload_n dX9_order_53 rfl rfl ?_
        refine ex_if_ne (q := 66) (q2 := 57) dX9_order_54 rfl rfl (fun hh => absurd hh (by decide)) (fun _ => ?_)
        refine ex_iload dX9_order_57 rfl rfl ?_
        refine ex_iload_n dX9_order_59 rfl rfl ?_
        refine ex_icmp_ge (q := 76) (q2 := 63) dX9_order_60 rfl rfl (fun hh => absurd hh (Int32.not_le.mpr c2)) (fun _ => ?_)
        refine ex_goto (q := 72) dX9_order_63 rfl ?_
        refine ex_iconst (x := 1) dX9_order_72 rfl rfl ?_
        refine ex_goto (q := 77) dX9_order_73 rfl ?_
        refine ex_istore (ls' := [some (.ref 55), some (.int 0), some (.int (nI q)), some (.int p.1), some (.int (nI p.2)), some (.int 1), some (.int (nI (cn T os))), some (.int 1)]) dX9_order_77 rfl (Nat.le_of_ble_eq_true rfl) rfl rfl ?_
        refine ex_iload dX9_order_79 rfl rfl ?_
        refine ex_if_eq (q := 91) (q2 := 84) dX9_order_81 rfl rfl (fun hh => absurd hh (by decide)) (fun _ => ?_)
        refine ex_aload_n dX9_order_84 rfl rfl ?_
        refine ex_callV (a := 55) (rest := []) dX9_order_85 rfl qp_8_253 rfl rfl rfl rfl rfl (Nat.le_of_ble_eq_true rfl) (k_rowDigits hor1) (Nat.le_of_ble_eq_true rfl) ?_
        show Ex qm_lay _ mX9_order 88 [some (.ref 55), some (.int 0), some (.int (nI q)), some (.int p.1), some (.int (nI p.2)), some (.int 1), some (.int (nI (cn T os))), some (.int 1)] [.int (nI (dg os))] σ1 _ _
        refine ex_goto (q := 93) dX9_order_88 rfl ?_
        refine ex_istore (ls' := [some (.ref 55), some (.int 0), some (.int (nI q)), some (.int p.1), some (.int (nI (dg os))), some (.int 1), some (.int (nI (cn T os))), some (.int 1)]) dX9_order_93 rfl (Nat.le_of_ble_eq_true rfl) rfl rfl ?_
        refine ex_iload dX9_order_95 rfl rfl ?_
        refine ex_if_eq (q := 105) (q2 := 100) dX9_order_97 rfl rfl (fun hh => absurd hh (by decide)) (fun _ => ?_)
        refine ex_iload dX9_order_100 rfl rfl ?_
        refine ex_goto (q := 106) dX9_order_102 rfl ?_
        refine ex_istore_n (ls' := [some (.ref 55), some (.int 0), some (.int (nI q)), some (.int (nI (cn T os))), some (.int (nI (dg os))), some (.int 1), some (.int (nI (cn T os))), some (.int 1)]) dX9_order_106 rfl (Nat.le_of_ble_eq_true rfl) rfl rfl ?_
        refine ex_aload_n dX9_order_107 rfl rfl ?_
        refine ex_callV (a := 55) (rest := []) dX9_order_108 rfl qp_8_256 rfl rfl rfl rfl rfl (Nat.le_of_ble_eq_true rfl) (hO2) (Nat.le_of_ble_eq_true rfl) ?_
        show Ex qm_lay _ mX9_order 111 [some (.ref 55), some (.int 0), some (.int (nI q)), some (.int (nI (cn T os))), some (.int (nI (dg os))), some (.int 1), some (.int (nI (cn T os))), some (.int 1)] [.int 0] σ2 _ _
        refine ex_istore (ls' := [some (.ref 55), some (.int 0), some (.int (nI q)), some (.int (nI (cn T os))), some (.int (nI (dg os))), some (.int 0), some (.int (nI (cn T os))), some (.int 1)]) dX9_order_111 rfl (Nat.le_of_ble_eq_true rfl) rfl rfl ?_
        refine ex_goto (q := 37) dX9_order_113 rfl ?_
        refine ex_iload dX9_order_37 rfl rfl ?_
        refine ex_if_eq (q := 116) (q2 := 42) dX9_order_39 rfl rfl (fun _ => ?_) (fun hh => absurd (by decide) hh)
        refine ex_iload_n dX9_order_116 rfl rfl ?_
        refine ex_if_ne (q := 124) (q2 := 120) dX9_order_117 rfl rfl (fun h117 => ?_) (fun h117 => ?_)
        · have hq0 : ¬ q = 0 := fun z => h117 (congrArg nI z)
          refine ex_iload dX9_order_124 rfl rfl ?_
          exact ex_iret dX9_order_126 rfl (by first | rw [if_neg hq0] | rw [if_pos hq0]) rfl
        · have hq0 : q = 0 := (nI_eq (b := 0) (by omega) (by decide)).mp (Decidable.not_not.mp h117)
          refine ex_iload_n dX9_order_120 rfl rfl ?_
          refine ex_goto (q := 126) dX9_order_121 rfl ?_
          exact ex_iret dX9_order_126 rfl (by first | rw [if_neg hq0] | rw [if_pos hq0]) rfl
      · have e1 : st2 false p (cn T os) (dg os) = p := if_neg (fun z => z.elim c1 (fun z => c2 (of_decide_eq_true z)))
        rw [e1]
        refine ex_iload dX9_order_37 rfl rfl ?_
        refine ex_if_eq (q := 116) (q2 := 42) dX9_order_39 rfl rfl (fun hh => absurd hh (by decide)) (fun _ => ?_)
        refine ex_aload_n dX9_order_42 rfl rfl ?_
        refine ex_callV (a := 55) (rest := []) dX9_order_43 rfl qp_8_250 rfl rfl rfl rfl rfl (Nat.le_of_ble_eq_true rfl) (hO) (Nat.le_of_ble_eq_true rfl) ?_
        show Ex qm_lay _ mX9_order 46 [some (.ref 55), some (.int 0), some (.int (nI q)), some (.int p.1), some (.int (nI p.2)), some (.int 1), x, y] [.int (nI (cn T os))] σ1 _ _
        refine ex_istore (ls' := [some (.ref 55), some (.int 0), some (.int (nI q)), some (.int p.1), some (.int (nI p.2)), some (.int 1), some (.int (nI (cn T os))), y]) dX9_order_46 rfl (Nat.le_of_ble_eq_true rfl) rfl rfl ?_
        refine ex_iload_n dX9_order_48 rfl rfl ?_
        refine ex_iconst (x := (-1)) dX9_order_49 rfl rfl ?_
        refine ex_icmp_eq (q := 72) (q2 := 53) dX9_order_50 rfl rfl (fun hh => absurd hh (c1)) (fun _ => ?_)
        refine ex_iload_n dX9_order_53 rfl rfl ?_
        refine ex_if_ne (q := 66) (q2 := 57) dX9_order_54 rfl rfl (fun hh => absurd hh (by decide)) (fun _ => ?_)
        refine ex_iload dX9_order_57 rfl rfl ?_
        refine ex_iload_n dX9_order_59 rfl rfl ?_
        refine ex_icmp_ge (q := 76) (q2 := 63) dX9_order_60 rfl rfl (fun _ => ?_) (fun hh => absurd (Int32.not_lt.mp c2) hh)
        refine ex_iconst (x := 0) dX9_order_76 rfl rfl ?_
        refine ex_istore (ls' := [some (.ref 55), some (.int 0), some (.int (nI q)), some (.int p.1), some (.int (nI p.2)), some (.int 1), some (.int (nI (cn T os))), some (.int 0)]) dX9_order_77 rfl (Nat.le_of_ble_eq_true rfl) rfl rfl ?_
        refine ex_iload dX9_order_79 rfl rfl ?_
        refine ex_if_eq (q := 91) (q2 := 84) dX9_order_81 rfl rfl (fun _ => ?_) (fun hh => absurd (by decide) hh)
        refine ex_iload dX9_order_91 rfl rfl ?_
        refine ex_istore (ls' := [some (.ref 55), some (.int 0), some (.int (nI q)), some (.int p.1), some (.int (nI p.2)), some (.int 1), some (.int (nI (cn T os))), some (.int 0)]) dX9_order_93 rfl (Nat.le_of_ble_eq_true rfl) rfl rfl ?_
        refine ex_iload dX9_order_95 rfl rfl ?_
        refine ex_if_eq (q := 105) (q2 := 100) dX9_order_97 rfl rfl (fun _ => ?_) (fun hh => absurd (by decide) hh)
        refine ex_iload_n dX9_order_105 rfl rfl ?_
        refine ex_istore_n (ls' := [some (.ref 55), some (.int 0), some (.int (nI q)), some (.int p.1), some (.int (nI p.2)), some (.int 1), some (.int (nI (cn T os))), some (.int 0)]) dX9_order_106 rfl (Nat.le_of_ble_eq_true rfl) rfl rfl ?_
        refine ex_aload_n dX9_order_107 rfl rfl ?_
        refine ex_callV (a := 55) (rest := []) dX9_order_108 rfl qp_8_256 rfl rfl rfl rfl rfl (Nat.le_of_ble_eq_true rfl) (hO2) (Nat.le_of_ble_eq_true rfl) ?_
        show Ex qm_lay _ mX9_order 111 [some (.ref 55), some (.int 0), some (.int (nI q)), some (.int p.1), some (.int (nI p.2)), some (.int 1), some (.int (nI (cn T os))), some (.int 0)] [.int 0] σ2 _ _
        refine ex_istore (ls' := [some (.ref 55), some (.int 0), some (.int (nI q)), some (.int p.1), some (.int (nI p.2)), some (.int 0), some (.int (nI (cn T os))), some (.int 0)]) dX9_order_111 rfl (Nat.le_of_ble_eq_true rfl) rfl rfl ?_
        refine ex_goto (q := 37) dX9_order_113 rfl ?_
        refine ex_iload dX9_order_37 rfl rfl ?_
        refine ex_if_eq (q := 116) (q2 := 42) dX9_order_39 rfl rfl (fun _ => ?_) (fun hh => absurd (by decide) hh)
        refine ex_iload_n dX9_order_116 rfl rfl ?_
        refine ex_if_ne (q := 124) (q2 := 120) dX9_order_117 rfl rfl (fun h117 => ?_) (fun h117 => ?_)
        · have hq0 : ¬ q = 0 := fun z => h117 (congrArg nI z)
          refine ex_iload dX9_order_124 rfl rfl ?_
          exact ex_iret dX9_order_126 rfl (by first | rw [if_neg hq0] | rw [if_pos hq0]) rfl
        · have hq0 : q = 0 := (nI_eq (b := 0) (by omega) (by decide)).mp (Decidable.not_not.mp h117)
          refine ex_iload_n dX9_order_120 rfl rfl ?_
          refine ex_goto (q := 126) dX9_order_121 rfl ?_
          exact ex_iret dX9_order_126 rfl (by first | rw [if_neg hq0] | rw [if_pos hq0]) rfl
  | cons o2 ps ih =>
    intro os x y p σ hch hel hp hM hor
    have hos := hel os List.mem_cons_self
    have h : MR σ T := hM.1
    obtain ⟨σ1, hO, hR, hs1⟩ := k_manyByRow hT h hor hos
    have hM1 := MG.thinkL (G := (T, X, P, Im, S)) hM hR ⟨fun s hs => hs1.1 s (by omega), fun r hr hr2 k => hs1.2 r (by omega) (by omega) k⟩
    have hs12 : sm σ σ1 27 46 42 62 := hs1.sm (by omega) (by omega) (by omega)
    have hor1 := hor.sl hs1
    have hcn : cn T os ≤ 12 := tn_pk_le _ 12
    obtain ⟨σ2, hO2, hR2, hs2⟩ := k_nextRow hor1 (fun l hl => Nat.lt_of_lt_of_le (hos l hl) hL)
    have hM2 := MG.aux hM1 (hs2.wid (i3 := 36) (i4 := 46) (j3 := 56) (j4 := 62) (by omega) (by omega))
    have hs13 : sm σ σ2 27 46 42 62 := hs12.tr (hs2.wid (by omega) (by omega))
    have hch2 : nx os = some o2 ∧ ch (o2 :: ps) = true := by
      have z : (decide (nx os = some o2) && ch (o2 :: ps)) = true := hch
      rw [Bool.and_eq_true] at z
      exact ⟨of_decide_eq_true z.1, z.2⟩
    rw [hch2.1] at hO2 hR2
    rw [List.foldl_cons]
    by_cases c1 : p.1 = -1
    · have e1 : st2 false p (cn T os) (dg os) = (nI (cn T os), dg os) := if_pos (Or.inl c1)
      rw [e1]
      obtain ⟨σ3, hE, hM3, hs3⟩ := ih o2 (some (.int (nI (cn T os)))) (some (.int 1)) (nI (cn T os), dg os) σ2 hch2.2 (fun o ho => hel o (List.mem_cons_of_mem _ ho)) (dg_lt hor.2.1 (fun l hl => Nat.lt_of_lt_of_le (hos l hl) hL)) hM2 hR2
      refine ⟨σ3, ?_, hM3, hs13.tr hs3⟩
      refine ex_iload dX9_order_37 rfl rfl ?_
      refine ex_if_eq (q := 116) (q2 := 42) dX9_order_39 rfl rfl (fun hh => absurd hh (by decide)) (fun _ => ?_)
      refine ex_aload_n dX9_order_42 rfl rfl ?_
      refine ex_callV (a := 55) (rest := []) dX9_order_43 rfl qp_8_250 rfl rfl rfl rfl rfl (Nat.le_of_ble_eq_true rfl) (hO) (Nat.le_of_ble_eq_true rfl) ?_
      show Ex qm_lay _ mX9_order 46 [some (.ref 55), some (.int 0), some (.int (nI q)), some (.int p.1), some (.int (nI p.2)), some (.int 1), x, y] [.int (nI (cn T os))] σ1 _ _
      refine ex_istore (ls' := [some (.ref 55), some (.int 0), some (.int (nI q)), some (.int p.1), some (.int (nI p.2)), some (.int 1), some (.int (nI (cn T os))), y]) dX9_order_46 rfl (Nat.le_of_ble_eq_true rfl) rfl rfl ?_
      refine ex_iload_n dX9_order_48 rfl rfl ?_
      refine ex_iconst (x := (-1)) dX9_order_49 rfl rfl ?_
      refine ex_icmp_eq (q := 72) (q2 := 53) dX9_order_50 rfl rfl (fun _ => ?_) (fun hh => absurd (c1) hh)
      refine ex_iconst (x := 1) dX9_order_72 rfl rfl ?_
      refine ex_goto (q := 77) dX9_order_73 rfl ?_
      refine ex_istore (ls' := [some (.ref 55), some (.int 0), some (.int (nI q)), some (.int p.1), some (.int (nI p.2)), some (.int 1), some (.int (nI (cn T os))), some (.int 1)]) dX9_order_77 rfl (Nat.le_of_ble_eq_true rfl) rfl rfl ?_
      refine ex_iload dX9_order_79 rfl rfl ?_
      refine ex_if_eq (q := 91) (q2 := 84) dX9_order_81 rfl rfl (fun hh => absurd hh (by decide)) (fun _ => ?_)
      refine ex_aload_n dX9_order_84 rfl rfl ?_
      refine ex_callV (a := 55) (rest := []) dX9_order_85 rfl qp_8_253 rfl rfl rfl rfl rfl (Nat.le_of_ble_eq_true rfl) (k_rowDigits hor1) (Nat.le_of_ble_eq_true rfl) ?_
      show Ex qm_lay _ mX9_order 88 [some (.ref 55), some (.int 0), some (.int (nI q)), some (.int p.1), some (.int (nI p.2)), some (.int 1), some (.int (nI (cn T os))), some (.int 1)] [.int (nI (dg os))] σ1 _ _
      refine ex_goto (q := 93) dX9_order_88 rfl ?_
      refine ex_istore (ls' := [some (.ref 55), some (.int 0), some (.int (nI q)), some (.int p.1), some (.int (nI (dg os))), some (.int 1), some (.int (nI (cn T os))), some (.int 1)]) dX9_order_93 rfl (Nat.le_of_ble_eq_true rfl) rfl rfl ?_
      refine ex_iload dX9_order_95 rfl rfl ?_
      refine ex_if_eq (q := 105) (q2 := 100) dX9_order_97 rfl rfl (fun hh => absurd hh (by decide)) (fun _ => ?_)
      refine ex_iload dX9_order_100 rfl rfl ?_
      refine ex_goto (q := 106) dX9_order_102 rfl ?_
      refine ex_istore_n (ls' := [some (.ref 55), some (.int 0), some (.int (nI q)), some (.int (nI (cn T os))), some (.int (nI (dg os))), some (.int 1), some (.int (nI (cn T os))), some (.int 1)]) dX9_order_106 rfl (Nat.le_of_ble_eq_true rfl) rfl rfl ?_
      refine ex_aload_n dX9_order_107 rfl rfl ?_
      refine ex_callV (a := 55) (rest := []) dX9_order_108 rfl qp_8_256 rfl rfl rfl rfl rfl (Nat.le_of_ble_eq_true rfl) (hO2) (Nat.le_of_ble_eq_true rfl) ?_
      show Ex qm_lay _ mX9_order 111 [some (.ref 55), some (.int 0), some (.int (nI q)), some (.int (nI (cn T os))), some (.int (nI (dg os))), some (.int 1), some (.int (nI (cn T os))), some (.int 1)] [.int 1] σ2 _ _
      refine ex_istore (ls' := [some (.ref 55), some (.int 0), some (.int (nI q)), some (.int (nI (cn T os))), some (.int (nI (dg os))), some (.int 1), some (.int (nI (cn T os))), some (.int 1)]) dX9_order_111 rfl (Nat.le_of_ble_eq_true rfl) rfl rfl ?_
      refine ex_goto (q := 37) dX9_order_113 rfl ?_
      exact hE
    · by_cases c2 : nI (cn T os) < p.1
      · have e1 : st2 false p (cn T os) (dg os) = (nI (cn T os), dg os) := if_pos (Or.inr (decide_eq_true c2))
        rw [e1]
        obtain ⟨σ3, hE, hM3, hs3⟩ := ih o2 (some (.int (nI (cn T os)))) (some (.int 1)) (nI (cn T os), dg os) σ2 hch2.2 (fun o ho => hel o (List.mem_cons_of_mem _ ho)) (dg_lt hor.2.1 (fun l hl => Nat.lt_of_lt_of_le (hos l hl) hL)) hM2 hR2
        refine ⟨σ3, ?_, hM3, hs13.tr hs3⟩
        refine ex_iload dX9_order_37 rfl rfl ?_
        refine ex_if_eq (q := 116) (q2 := 42) dX9_order_39 rfl rfl (fun hh => absurd hh (by decide)) (fun _ => ?_)
        refine ex_aload_n dX9_order_42 rfl rfl ?_
        refine ex_callV (a := 55) (rest := []) dX9_order_43 rfl qp_8_250 rfl rfl rfl rfl rfl (Nat.le_of_ble_eq_true rfl) (hO) (Nat.le_of_ble_eq_true rfl) ?_
        show Ex qm_lay _ mX9_order 46 [some (.ref 55), some (.int 0), some (.int (nI q)), some (.int p.1), some (.int (nI p.2)), some (.int 1), x, y] [.int (nI (cn T os))] σ1 _ _
        refine ex_istore (ls' := [some (.ref 55), some (.int 0), some (.int (nI q)), some (.int p.1), some (.int (nI p.2)), some (.int 1), some (.int (nI (cn T os))), y]) dX9_order_46 rfl (Nat.le_of_ble_eq_true rfl) rfl rfl ?_
        refine ex_iload_n dX9_order_48 rfl rfl ?_
        refine ex_iconst (x := (-1)) dX9_order_49 rfl rfl ?_
        refine ex_icmp_eq (q := 72) (q2 := 53) dX9_order_50 rfl rfl (fun hh => absurd hh (c1)) (fun _ => ?_)
        refine ex_iload_n dX9_order_53 rfl rfl ?_
        refine ex_if_ne (q := 66) (q2 := 57) dX9_order_54 rfl rfl (fun hh => absurd hh (by decide)) (fun _ => ?_)
        refine ex_iload dX9_order_57 rfl rfl ?_
        refine ex_iload_n dX9_order_59 rfl rfl ?_
        refine ex_icmp_ge (q := 76) (q2 := 63) dX9_order_60 rfl rfl (fun hh => absurd hh (Int32.not_le.mpr c2)) (fun _ => ?_)
        refine ex_goto (q := 72) dX9_order_63 rfl ?_
        refine ex_iconst (x := 1) dX9_order_72 rfl rfl ?_
        refine ex_goto (q := 77) dX9_order_73 rfl ?_
        refine ex_istore (ls' := [some (.ref 55), some (.int 0), some (.int (nI q)), some (.int p.1), some (.int (nI p.2)), some (.int 1), some (.int (nI (cn T os))), some (.int 1)]) dX9_order_77 rfl (Nat.le_of_ble_eq_true rfl) rfl rfl ?_
        refine ex_iload dX9_order_79 rfl rfl ?_
        refine ex_if_eq (q := 91) (q2 := 84) dX9_order_81 rfl rfl (fun hh => absurd hh (by decide)) (fun _ => ?_)
        refine ex_aload_n dX9_order_84 rfl rfl ?_
        refine ex_callV (a := 55) (rest := []) dX9_order_85 rfl qp_8_253 rfl rfl rfl rfl rfl (Nat.le_of_ble_eq_true rfl) (k_rowDigits hor1) (Nat.le_of_ble_eq_true rfl) ?_
        show Ex qm_lay _ mX9_order 88 [some (.ref 55), some (.int 0), some (.int (nI q)), some (.int p.1), some (.int (nI p.2)), some (.int 1), some (.int (nI (cn T os))), some (.int 1)] [.int (nI (dg os))] σ1 _ _
        refine ex_goto (q := 93) dX9_order_88 rfl ?_
        refine ex_istore (ls' := [some (.ref 55), some (.int 0), some (.int (nI q)), some (.int p.1), some (.int (nI (dg os))), some (.int 1), some (.int (nI (cn T os))), some (.int 1)]) dX9_order_93 rfl (Nat.le_of_ble_eq_true rfl) rfl rfl ?_
        refine ex_iload dX9_order_95 rfl rfl ?_
        refine ex_if_eq (q := 105) (q2 := 100) dX9_order_97 rfl rfl (fun hh => absurd hh (by decide)) (fun _ => ?_)
        refine ex_iload dX9_order_100 rfl rfl ?_
        refine ex_goto (q := 106) dX9_order_102 rfl ?_
        refine ex_istore_n (ls' := [some (.ref 55), some (.int 0), some (.int (nI q)), some (.int (nI (cn T os))), some (.int (nI (dg os))), some (.int 1), some (.int (nI (cn T os))), some (.int 1)]) dX9_order_106 rfl (Nat.le_of_ble_eq_true rfl) rfl rfl ?_
        refine ex_aload_n dX9_order_107 rfl rfl ?_
        refine ex_callV (a := 55) (rest := []) dX9_order_108 rfl qp_8_256 rfl rfl rfl rfl rfl (Nat.le_of_ble_eq_true rfl) (hO2) (Nat.le_of_ble_eq_true rfl) ?_
        show Ex qm_lay _ mX9_order 111 [some (.ref 55), some (.int 0), some (.int (nI q)), some (.int (nI (cn T os))), some (.int (nI (dg os))), some (.int 1), some (.int (nI (cn T os))), some (.int 1)] [.int 1] σ2 _ _
        refine ex_istore (ls' := [some (.ref 55), some (.int 0), some (.int (nI q)), some (.int (nI (cn T os))), some (.int (nI (dg os))), some (.int 1), some (.int (nI (cn T os))), some (.int 1)]) dX9_order_111 rfl (Nat.le_of_ble_eq_true rfl) rfl rfl ?_
        refine ex_goto (q := 37) dX9_order_113 rfl ?_
        exact hE
      · have e1 : st2 false p (cn T os) (dg os) = p := if_neg (fun z => z.elim c1 (fun z => c2 (of_decide_eq_true z)))
        rw [e1]
        obtain ⟨σ3, hE, hM3, hs3⟩ := ih o2 (some (.int (nI (cn T os)))) (some (.int 0)) p σ2 hch2.2 (fun o ho => hel o (List.mem_cons_of_mem _ ho)) hp hM2 hR2
        refine ⟨σ3, ?_, hM3, hs13.tr hs3⟩
        refine ex_iload dX9_order_37 rfl rfl ?_
        refine ex_if_eq (q := 116) (q2 := 42) dX9_order_39 rfl rfl (fun hh => absurd hh (by decide)) (fun _ => ?_)
        refine ex_aload_n dX9_order_42 rfl rfl ?_
        refine ex_callV (a := 55) (rest := []) dX9_order_43 rfl qp_8_250 rfl rfl rfl rfl rfl (Nat.le_of_ble_eq_true rfl) (hO) (Nat.le_of_ble_eq_true rfl) ?_
        show Ex qm_lay _ mX9_order 46 [some (.ref 55), some (.int 0), some (.int (nI q)), some (.int p.1), some (.int (nI p.2)), some (.int 1), x, y] [.int (nI (cn T os))] σ1 _ _
        refine ex_istore (ls' := [some (.ref 55), some (.int 0), some (.int (nI q)), some (.int p.1), some (.int (nI p.2)), some (.int 1), some (.int (nI (cn T os))), y]) dX9_order_46 rfl (Nat.le_of_ble_eq_true rfl) rfl rfl ?_
        refine ex_iload_n dX9_order_48 rfl rfl ?_
        refine ex_iconst (x := (-1)) dX9_order_49 rfl rfl ?_
        refine ex_icmp_eq (q := 72) (q2 := 53) dX9_order_50 rfl rfl (fun hh => absurd hh (c1)) (fun _ => ?_)
        refine ex_iload_n dX9_order_53 rfl rfl ?_
        refine ex_if_ne (q := 66) (q2 := 57) dX9_order_54 rfl rfl (fun hh => absurd hh (by decide)) (fun _ => ?_)
        refine ex_iload dX9_order_57 rfl rfl ?_
        refine ex_iload_n dX9_order_59 rfl rfl ?_
        refine ex_icmp_ge (q := 76) (q2 := 63) dX9_order_60 rfl rfl (fun _ => ?_) (fun hh => absurd (Int32.not_lt.mp c2) hh)
        refine ex_iconst (x := 0) dX9_order_76 rfl rfl ?_
        refine ex_istore (ls' := [some (.ref 55), some (.int 0), some (.int (nI q)), some (.int p.1), some (.int (nI p.2)), some (.int 1), some (.int (nI (cn T os))), some (.int 0)]) dX9_order_77 rfl (Nat.le_of_ble_eq_true rfl) rfl rfl ?_
        refine ex_iload dX9_order_79 rfl rfl ?_
        refine ex_if_eq (q := 91) (q2 := 84) dX9_order_81 rfl rfl (fun _ => ?_) (fun hh => absurd (by decide) hh)
        refine ex_iload dX9_order_91 rfl rfl ?_
        refine ex_istore (ls' := [some (.ref 55), some (.int 0), some (.int (nI q)), some (.int p.1), some (.int (nI p.2)), some (.int 1), some (.int (nI (cn T os))), some (.int 0)]) dX9_order_93 rfl (Nat.le_of_ble_eq_true rfl) rfl rfl ?_
        refine ex_iload dX9_order_95 rfl rfl ?_
        refine ex_if_eq (q := 105) (q2 := 100) dX9_order_97 rfl rfl (fun _ => ?_) (fun hh => absurd (by decide) hh)
        refine ex_iload_n dX9_order_105 rfl rfl ?_
        refine ex_istore_n (ls' := [some (.ref 55), some (.int 0), some (.int (nI q)), some (.int p.1), some (.int (nI p.2)), some (.int 1), some (.int (nI (cn T os))), some (.int 0)]) dX9_order_106 rfl (Nat.le_of_ble_eq_true rfl) rfl rfl ?_
        refine ex_aload_n dX9_order_107 rfl rfl ?_
        refine ex_callV (a := 55) (rest := []) dX9_order_108 rfl qp_8_256 rfl rfl rfl rfl rfl (Nat.le_of_ble_eq_true rfl) (hO2) (Nat.le_of_ble_eq_true rfl) ?_
        show Ex qm_lay _ mX9_order 111 [some (.ref 55), some (.int 0), some (.int (nI q)), some (.int p.1), some (.int (nI p.2)), some (.int 1), some (.int (nI (cn T os))), some (.int 0)] [.int 1] σ2 _ _
        refine ex_istore (ls' := [some (.ref 55), some (.int 0), some (.int (nI q)), some (.int p.1), some (.int (nI p.2)), some (.int 1), some (.int (nI (cn T os))), some (.int 0)]) dX9_order_111 rfl (Nat.le_of_ble_eq_true rfl) rfl rfl ?_
        refine ex_goto (q := 37) dX9_order_113 rfl ?_
        exact hE

set_option maxHeartbeats 2000000 in
theorem l_orderM1 {T : tn_T} {X : gx_T} {P : gt_T} {Im : gi_T} {S : gs_T} (hG : gg_ok (T, X, P, Im, S)) {q : Nat} (hq : q ≤ 1) : ∀ (ps : List (List Nat)) (os : List Nat) (x y : Option Value) (p : Int32 × Nat) (σ : qm_St), ch (os :: ps) = true → (∀ o ∈ os :: ps, ∀ l ∈ o, l < tn_L T) → p.2 < 2 ^ 31 → MG σ (T, X, P, Im, S) → RR σ os → ∃ σ', Ex qm_lay 100 mX9_order 37 [some (.ref 55), some (.int 1), some (.int (nI q)), some (.int p.1), some (.int (nI p.2)), some (.int 1), x, y] [] σ (some (.int (if q = 0 then ((os :: ps).foldl (fun p os => st2 true p (cn T os) (dg os)) p).1 else nI ((os :: ps).foldl (fun p os => st2 true p (cn T os) (dg os)) p).2))) σ' ∧ MG σ' (T, X, P, Im, S) ∧ sm σ σ' 27 46 42 62 := by
  have hT : tn_ok T := hG.1
  have hL := hT.1
  intro ps
  induction ps with
  | nil =>
    intro os x y p σ hch hel hp hM hor
    have hos := hel os List.mem_cons_self
    have h : MR σ T := hM.1
    obtain ⟨σ1, hO, hR, hs1⟩ := k_manyByRow hT h hor hos
    have hM1 := MG.thinkL (G := (T, X, P, Im, S)) hM hR ⟨fun s hs => hs1.1 s (by omega), fun r hr hr2 k => hs1.2 r (by omega) (by omega) k⟩
    have hs12 : sm σ σ1 27 46 42 62 := hs1.sm (by omega) (by omega) (by omega)
    have hor1 := hor.sl hs1
    have hcn : cn T os ≤ 12 := tn_pk_le _ 12
    obtain ⟨σ2, hO2, hR2, hs2⟩ := k_nextRow hor1 (fun l hl => Nat.lt_of_lt_of_le (hos l hl) hL)
    have hM2 := MG.aux hM1 (hs2.wid (i3 := 36) (i4 := 46) (j3 := 56) (j4 := 62) (by omega) (by omega))
    have hs13 : sm σ σ2 27 46 42 62 := hs12.tr (hs2.wid (by omega) (by omega))
    have hnx : nx os = none := of_decide_eq_true hch
    rw [hnx] at hO2
    refine ⟨σ2, ?_, hM2, hs13⟩
    rw [List.foldl_cons, List.foldl_nil]
    by_cases c1 : p.1 = -1
    · have e1 : st2 true p (cn T os) (dg os) = (nI (cn T os), dg os) := if_pos (Or.inl c1)
      rw [e1]
      refine ex_iload dX9_order_37 rfl rfl ?_
      refine ex_if_eq (q := 116) (q2 := 42) dX9_order_39 rfl rfl (fun hh => absurd hh (by decide)) (fun _ => ?_)
      refine ex_aload_n dX9_order_42 rfl rfl ?_
      refine ex_callV (a := 55) (rest := []) dX9_order_43 rfl qp_8_250 rfl rfl rfl rfl rfl (Nat.le_of_ble_eq_true rfl) (hO) (Nat.le_of_ble_eq_true rfl) ?_
      show Ex qm_lay _ mX9_order 46 [some (.ref 55), some (.int 1), some (.int (nI q)), some (.int p.1), some (.int (nI p.2)), some (.int 1), x, y] [.int (nI (cn T os))] σ1 _ _
      refine ex_istore (ls' := [some (.ref 55), some (.int 1), some (.int (nI q)), some (.int p.1), some (.int (nI p.2)), some (.int 1), some (.int (nI (cn T os))), y]) dX9_order_46 rfl (Nat.le_of_ble_eq_true rfl) rfl rfl ?_
      refine ex_iload_n dX9_order_48 rfl rfl ?_
      refine ex_iconst (x := (-1)) dX9_order_49 rfl rfl ?_
      refine ex_icmp_eq (q := 72) (q2 := 53) dX9_order_50 rfl rfl (fun _ => ?_) (fun hh => absurd (c1) hh)
      refine ex_iconst (x := 1) dX9_order_72 rfl rfl ?_
      refine ex_goto (q := 77) dX9_order_73 rfl ?_
      refine ex_istore (ls' := [some (.ref 55), some (.int 1), some (.int (nI q)), some (.int p.1), some (.int (nI p.2)), some (.int 1), some (.int (nI (cn T os))), some (.int 1)]) dX9_order_77 rfl (Nat.le_of_ble_eq_true rfl) rfl rfl ?_
      refine ex_iload dX9_order_79 rfl rfl ?_
      refine ex_if_eq (q := 91) (q2 := 84) dX9_order_81 rfl rfl (fun hh => absurd hh (by decide)) (fun _ => ?_)
      refine ex_aload_n dX9_order_84 rfl rfl ?_
      refine ex_callV (a := 55) (rest := []) dX9_order_85 rfl qp_8_253 rfl rfl rfl rfl rfl (Nat.le_of_ble_eq_true rfl) (k_rowDigits hor1) (Nat.le_of_ble_eq_true rfl) ?_
      show Ex qm_lay _ mX9_order 88 [some (.ref 55), some (.int 1), some (.int (nI q)), some (.int p.1), some (.int (nI p.2)), some (.int 1), some (.int (nI (cn T os))), some (.int 1)] [.int (nI (dg os))] σ1 _ _
      refine ex_goto (q := 93) dX9_order_88 rfl ?_
      refine ex_istore (ls' := [some (.ref 55), some (.int 1), some (.int (nI q)), some (.int p.1), some (.int (nI (dg os))), some (.int 1), some (.int (nI (cn T os))), some (.int 1)]) dX9_order_93 rfl (Nat.le_of_ble_eq_true rfl) rfl rfl ?_
      refine ex_iload dX9_order_95 rfl rfl ?_
      refine ex_if_eq (q := 105) (q2 := 100) dX9_order_97 rfl rfl (fun hh => absurd hh (by decide)) (fun _ => ?_)
      refine ex_iload dX9_order_100 rfl rfl ?_
      refine ex_goto (q := 106) dX9_order_102 rfl ?_
      refine ex_istore_n (ls' := [some (.ref 55), some (.int 1), some (.int (nI q)), some (.int (nI (cn T os))), some (.int (nI (dg os))), some (.int 1), some (.int (nI (cn T os))), some (.int 1)]) dX9_order_106 rfl (Nat.le_of_ble_eq_true rfl) rfl rfl ?_
      refine ex_aload_n dX9_order_107 rfl rfl ?_
      refine ex_callV (a := 55) (rest := []) dX9_order_108 rfl qp_8_256 rfl rfl rfl rfl rfl (Nat.le_of_ble_eq_true rfl) (hO2) (Nat.le_of_ble_eq_true rfl) ?_
      show Ex qm_lay _ mX9_order 111 [some (.ref 55), some (.int 1), some (.int (nI q)), some (.int (nI (cn T os))), some (.int (nI (dg os))), some (.int 1), some (.int (nI (cn T os))), some (.int 1)] [.int 0] σ2 _ _
      refine ex_istore (ls' := [some (.ref 55), some (.int 1), some (.int (nI q)), some (.int (nI (cn T os))), some (.int (nI (dg os))), some (.int 0), some (.int (nI (cn T os))), some (.int 1)]) dX9_order_111 rfl (Nat.le_of_ble_eq_true rfl) rfl rfl ?_
      refine ex_goto (q := 37) dX9_order_113 rfl ?_
      refine ex_iload dX9_order_37 rfl rfl ?_
      refine ex_if_eq (q := 116) (q2 := 42) dX9_order_39 rfl rfl (fun _ => ?_) (fun hh => absurd (by decide) hh)
      refine ex_iload_n dX9_order_116 rfl rfl ?_
      refine ex_if_ne (q := 124) (q2 := 120) dX9_order_117 rfl rfl (fun h117 => ?_) (fun h117 => ?_)
      · have hq0 : ¬ q = 0 := fun z => h117 (congrArg nI z)
        refine ex_iload dX9_order_124 rfl rfl ?_
        exact ex_iret dX9_order_126 rfl (by first | rw [if_neg hq0] | rw [if_pos hq0]) rfl
      · have hq0 : q = 0 := (nI_eq (b := 0) (by omega) (by decide)).mp (Decidable.not_not.mp h117)
        refine ex_iload_n dX9_order_120 rfl rfl ?_
        refine ex_goto (q := 126) dX9_order_121 rfl ?_
        exact ex_iret dX9_order_126 rfl (by first | rw [if_neg hq0] | rw [if_pos hq0]) rfl
    · by_cases c2 : p.1 < nI (cn T os)
      · have e1 : st2 true p (cn T os) (dg os) = (nI (cn T os), dg os) := if_pos (Or.inr (decide_eq_true c2))
        rw [e1]
        refine ex_iload dX9_order_37 rfl rfl ?_
        refine ex_if_eq (q := 116) (q2 := 42) dX9_order_39 rfl rfl (fun hh => absurd hh (by decide)) (fun _ => ?_)
        refine ex_aload_n dX9_order_42 rfl rfl ?_
        refine ex_callV (a := 55) (rest := []) dX9_order_43 rfl qp_8_250 rfl rfl rfl rfl rfl (Nat.le_of_ble_eq_true rfl) (hO) (Nat.le_of_ble_eq_true rfl) ?_
        show Ex qm_lay _ mX9_order 46 [some (.ref 55), some (.int 1), some (.int (nI q)), some (.int p.1), some (.int (nI p.2)), some (.int 1), x, y] [.int (nI (cn T os))] σ1 _ _
        refine ex_istore (ls' := [some (.ref 55), some (.int 1), some (.int (nI q)), some (.int p.1), some (.int (nI p.2)), some (.int 1), some (.int (nI (cn T os))), y]) dX9_order_46 rfl (Nat.le_of_ble_eq_true rfl) rfl rfl ?_
        refine ex_iload_n dX9_order_48 rfl rfl ?_
        refine ex_iconst (x := (-1)) dX9_order_49 rfl rfl ?_
        refine ex_icmp_eq (q := 72) (q2 := 53) dX9_order_50 rfl rfl (fun hh => absurd hh (c1)) (fun _ => ?_)
        refine ex_iload_n dX9_order_53 rfl rfl ?_
        refine ex_if_ne (q := 66) (q2 := 57) dX9_order_54 rfl rfl (fun _ => ?_) (fun hh => absurd (by decide) hh)
        refine ex_iload dX9_order_66 rfl rfl ?_
        refine ex_iload_n dX9_order_68 rfl rfl ?_
        refine ex_icmp_le (q := 76) (q2 := 72) dX9_order_69 rfl rfl (fun hh => absurd hh (Int32.not_le.mpr c2)) (fun _ => ?_)
        refine ex_iconst (x := 1) dX9_order_72 rfl rfl ?_
        refine ex_goto (q := 77) dX9_order_73 rfl ?_
        refine ex_istore (ls' := [some (.ref 55), some (.int 1), some (.int (nI q)), some (.int p.1), some (.int (nI p.2)), some (.int 1), some (.int (nI (cn T os))), some (.int 1)]) dX9_order_77 rfl (Nat.le_of_ble_eq_true rfl) rfl rfl ?_
        refine ex_iload dX9_order_79 rfl rfl ?_
        refine ex_if_eq (q := 91) (q2 := 84) dX9_order_81 rfl rfl (fun hh => absurd hh (by decide)) (fun _ => ?_)
        refine ex_aload_n dX9_order_84 rfl rfl ?_
        refine ex_callV (a := 55) (rest := []) dX9_order_85 rfl qp_8_253 rfl rfl rfl rfl rfl (Nat.le_of_ble_eq_true rfl) (k_rowDigits hor1) (Nat.le_of_ble_eq_true rfl) ?_
        show Ex qm_lay _ mX9_order 88 [some (.ref 55), some (.int 1), some (.int (nI q)), some (.int p.1), some (.int (nI p.2)), some (.int 1), some (.int (nI (cn T os))), some (.int 1)] [.int (nI (dg os))] σ1 _ _
        refine ex_goto (q := 93) dX9_order_88 rfl ?_
        refine ex_istore (ls' := [some (.ref 55), some (.int 1), some (.int (nI q)), some (.int p.1), some (.int (nI (dg os))), some (.int 1), some (.int (nI (cn T os))), some (.int 1)]) dX9_order_93 rfl (Nat.le_of_ble_eq_true rfl) rfl rfl ?_
        refine ex_iload dX9_order_95 rfl rfl ?_
        refine ex_if_eq (q := 105) (q2 := 100) dX9_order_97 rfl rfl (fun hh => absurd hh (by decide)) (fun _ => ?_)
        refine ex_iload dX9_order_100 rfl rfl ?_
        refine ex_goto (q := 106) dX9_order_102 rfl ?_
        refine ex_istore_n (ls' := [some (.ref 55), some (.int 1), some (.int (nI q)), some (.int (nI (cn T os))), some (.int (nI (dg os))), some (.int 1), some (.int (nI (cn T os))), some (.int 1)]) dX9_order_106 rfl (Nat.le_of_ble_eq_true rfl) rfl rfl ?_
        refine ex_aload_n dX9_order_107 rfl rfl ?_
        refine ex_callV (a := 55) (rest := []) dX9_order_108 rfl qp_8_256 rfl rfl rfl rfl rfl (Nat.le_of_ble_eq_true rfl) (hO2) (Nat.le_of_ble_eq_true rfl) ?_
        show Ex qm_lay _ mX9_order 111 [some (.ref 55), some (.int 1), some (.int (nI q)), some (.int (nI (cn T os))), some (.int (nI (dg os))), some (.int 1), some (.int (nI (cn T os))), some (.int 1)] [.int 0] σ2 _ _
        refine ex_istore (ls' := [some (.ref 55), some (.int 1), some (.int (nI q)), some (.int (nI (cn T os))), some (.int (nI (dg os))), some (.int 0), some (.int (nI (cn T os))), some (.int 1)]) dX9_order_111 rfl (Nat.le_of_ble_eq_true rfl) rfl rfl ?_
        refine ex_goto (q := 37) dX9_order_113 rfl ?_
        refine ex_iload dX9_order_37 rfl rfl ?_
        refine ex_if_eq (q := 116) (q2 := 42) dX9_order_39 rfl rfl (fun _ => ?_) (fun hh => absurd (by decide) hh)
        refine ex_iload_n dX9_order_116 rfl rfl ?_
        refine ex_if_ne (q := 124) (q2 := 120) dX9_order_117 rfl rfl (fun h117 => ?_) (fun h117 => ?_)
        · have hq0 : ¬ q = 0 := fun z => h117 (congrArg nI z)
          refine ex_iload dX9_order_124 rfl rfl ?_
          exact ex_iret dX9_order_126 rfl (by first | rw [if_neg hq0] | rw [if_pos hq0]) rfl
        · have hq0 : q = 0 := (nI_eq (b := 0) (by omega) (by decide)).mp (Decidable.not_not.mp h117)
          refine ex_iload_n dX9_order_120 rfl rfl ?_
          refine ex_goto (q := 126) dX9_order_121 rfl ?_
          exact ex_iret dX9_order_126 rfl (by first | rw [if_neg hq0] | rw [if_pos hq0]) rfl
      · have e1 : st2 true p (cn T os) (dg os) = p := if_neg (fun z => z.elim c1 (fun z => c2 (of_decide_eq_true z)))
        rw [e1]
        refine ex_iload dX9_order_37 rfl rfl ?_
        refine ex_if_eq (q := 116) (q2 := 42) dX9_order_39 rfl rfl (fun hh => absurd hh (by decide)) (fun _ => ?_)
        refine ex_aload_n dX9_order_42 rfl rfl ?_
        refine ex_callV (a := 55) (rest := []) dX9_order_43 rfl qp_8_250 rfl rfl rfl rfl rfl (Nat.le_of_ble_eq_true rfl) (hO) (Nat.le_of_ble_eq_true rfl) ?_
        show Ex qm_lay _ mX9_order 46 [some (.ref 55), some (.int 1), some (.int (nI q)), some (.int p.1), some (.int (nI p.2)), some (.int 1), x, y] [.int (nI (cn T os))] σ1 _ _
        refine ex_istore (ls' := [some (.ref 55), some (.int 1), some (.int (nI q)), some (.int p.1), some (.int (nI p.2)), some (.int 1), some (.int (nI (cn T os))), y]) dX9_order_46 rfl (Nat.le_of_ble_eq_true rfl) rfl rfl ?_
        refine ex_iload_n dX9_order_48 rfl rfl ?_
        refine ex_iconst (x := (-1)) dX9_order_49 rfl rfl ?_
        refine ex_icmp_eq (q := 72) (q2 := 53) dX9_order_50 rfl rfl (fun hh => absurd hh (c1)) (fun _ => ?_)
        refine ex_iload_n dX9_order_53 rfl rfl ?_
        refine ex_if_ne (q := 66) (q2 := 57) dX9_order_54 rfl rfl (fun _ => ?_) (fun hh => absurd (by decide) hh)
        refine ex_iload dX9_order_66 rfl rfl ?_
        refine ex_iload_n dX9_order_68 rfl rfl ?_
        refine ex_icmp_le (q := 76) (q2 := 72) dX9_order_69 rfl rfl (fun _ => ?_) (fun hh => absurd (Int32.not_lt.mp c2) hh)
        refine ex_iconst (x := 0) dX9_order_76 rfl rfl ?_
        refine ex_istore (ls' := [some (.ref 55), some (.int 1), some (.int (nI q)), some (.int p.1), some (.int (nI p.2)), some (.int 1), some (.int (nI (cn T os))), some (.int 0)]) dX9_order_77 rfl (Nat.le_of_ble_eq_true rfl) rfl rfl ?_
        refine ex_iload dX9_order_79 rfl rfl ?_
        refine ex_if_eq (q := 91) (q2 := 84) dX9_order_81 rfl rfl (fun _ => ?_) (fun hh => absurd (by decide) hh)
        refine ex_iload dX9_order_91 rfl rfl ?_
        refine ex_istore (ls' := [some (.ref 55), some (.int 1), some (.int (nI q)), some (.int p.1), some (.int (nI p.2)), some (.int 1), some (.int (nI (cn T os))), some (.int 0)]) dX9_order_93 rfl (Nat.le_of_ble_eq_true rfl) rfl rfl ?_
        refine ex_iload dX9_order_95 rfl rfl ?_
        refine ex_if_eq (q := 105) (q2 := 100) dX9_order_97 rfl rfl (fun _ => ?_) (fun hh => absurd (by decide) hh)
        refine ex_iload_n dX9_order_105 rfl rfl ?_
        refine ex_istore_n (ls' := [some (.ref 55), some (.int 1), some (.int (nI q)), some (.int p.1), some (.int (nI p.2)), some (.int 1), some (.int (nI (cn T os))), some (.int 0)]) dX9_order_106 rfl (Nat.le_of_ble_eq_true rfl) rfl rfl ?_
        refine ex_aload_n dX9_order_107 rfl rfl ?_
        refine ex_callV (a := 55) (rest := []) dX9_order_108 rfl qp_8_256 rfl rfl rfl rfl rfl (Nat.le_of_ble_eq_true rfl) (hO2) (Nat.le_of_ble_eq_true rfl) ?_
        show Ex qm_lay _ mX9_order 111 [some (.ref 55), some (.int 1), some (.int (nI q)), some (.int p.1), some (.int (nI p.2)), some (.int 1), some (.int (nI (cn T os))), some (.int 0)] [.int 0] σ2 _ _
        refine ex_istore (ls' := [some (.ref 55), some (.int 1), some (.int (nI q)), some (.int p.1), some (.int (nI p.2)), some (.int 0), some (.int (nI (cn T os))), some (.int 0)]) dX9_order_111 rfl (Nat.le_of_ble_eq_true rfl) rfl rfl ?_
        refine ex_goto (q := 37) dX9_order_113 rfl ?_
        refine ex_iload dX9_order_37 rfl rfl ?_
        refine ex_if_eq (q := 116) (q2 := 42) dX9_order_39 rfl rfl (fun _ => ?_) (fun hh => absurd (by decide) hh)
        refine ex_iload_n dX9_order_116 rfl rfl ?_
        refine ex_if_ne (q := 124) (q2 := 120) dX9_order_117 rfl rfl (fun h117 => ?_) (fun h117 => ?_)
        · have hq0 : ¬ q = 0 := fun z => h117 (congrArg nI z)
          refine ex_iload dX9_order_124 rfl rfl ?_
          exact ex_iret dX9_order_126 rfl (by first | rw [if_neg hq0] | rw [if_pos hq0]) rfl
        · have hq0 : q = 0 := (nI_eq (b := 0) (by omega) (by decide)).mp (Decidable.not_not.mp h117)
          refine ex_iload_n dX9_order_120 rfl rfl ?_
          refine ex_goto (q := 126) dX9_order_121 rfl ?_
          exact ex_iret dX9_order_126 rfl (by first | rw [if_neg hq0] | rw [if_pos hq0]) rfl
  | cons o2 ps ih =>
    intro os x y p σ hch hel hp hM hor
    have hos := hel os List.mem_cons_self
    have h : MR σ T := hM.1
    obtain ⟨σ1, hO, hR, hs1⟩ := k_manyByRow hT h hor hos
    have hM1 := MG.thinkL (G := (T, X, P, Im, S)) hM hR ⟨fun s hs => hs1.1 s (by omega), fun r hr hr2 k => hs1.2 r (by omega) (by omega) k⟩
    have hs12 : sm σ σ1 27 46 42 62 := hs1.sm (by omega) (by omega) (by omega)
    have hor1 := hor.sl hs1
    have hcn : cn T os ≤ 12 := tn_pk_le _ 12
    obtain ⟨σ2, hO2, hR2, hs2⟩ := k_nextRow hor1 (fun l hl => Nat.lt_of_lt_of_le (hos l hl) hL)
    have hM2 := MG.aux hM1 (hs2.wid (i3 := 36) (i4 := 46) (j3 := 56) (j4 := 62) (by omega) (by omega))
    have hs13 : sm σ σ2 27 46 42 62 := hs12.tr (hs2.wid (by omega) (by omega))
    have hch2 : nx os = some o2 ∧ ch (o2 :: ps) = true := by
      have z : (decide (nx os = some o2) && ch (o2 :: ps)) = true := hch
      rw [Bool.and_eq_true] at z
      exact ⟨of_decide_eq_true z.1, z.2⟩
    rw [hch2.1] at hO2 hR2
    rw [List.foldl_cons]
    by_cases c1 : p.1 = -1
    · have e1 : st2 true p (cn T os) (dg os) = (nI (cn T os), dg os) := if_pos (Or.inl c1)
      rw [e1]
      obtain ⟨σ3, hE, hM3, hs3⟩ := ih o2 (some (.int (nI (cn T os)))) (some (.int 1)) (nI (cn T os), dg os) σ2 hch2.2 (fun o ho => hel o (List.mem_cons_of_mem _ ho)) (dg_lt hor.2.1 (fun l hl => Nat.lt_of_lt_of_le (hos l hl) hL)) hM2 hR2
      refine ⟨σ3, ?_, hM3, hs13.tr hs3⟩
      refine ex_iload dX9_order_37 rfl rfl ?_
      refine ex_if_eq (q := 116) (q2 := 42) dX9_order_39 rfl rfl (fun hh => absurd hh (by decide)) (fun _ => ?_)
      refine ex_aload_n dX9_order_42 rfl rfl ?_
      refine ex_callV (a := 55) (rest := []) dX9_order_43 rfl qp_8_250 rfl rfl rfl rfl rfl (Nat.le_of_ble_eq_true rfl) (hO) (Nat.le_of_ble_eq_true rfl) ?_
      show Ex qm_lay _ mX9_order 46 [some (.ref 55), some (.int 1), some (.int (nI q)), some (.int p.1), some (.int (nI p.2)), some (.int 1), x, y] [.int (nI (cn T os))] σ1 _ _
      refine ex_istore (ls' := [some (.ref 55), some (.int 1), some (.int (nI q)), some (.int p.1), some (.int (nI p.2)), some (.int 1), some (.int (nI (cn T os))), y]) dX9_order_46 rfl (Nat.le_of_ble_eq_true rfl) rfl rfl ?_
      refine ex_iload_n dX9_order_48 rfl rfl ?_
      refine ex_iconst (x := (-1)) dX9_order_49 rfl rfl ?_
      refine ex_icmp_eq (q := 72) (q2 := 53) dX9_order_50 rfl rfl (fun _ => ?_) (fun hh => absurd (c1) hh)
      refine ex_iconst (x := 1) dX9_order_72 rfl rfl ?_
      refine ex_goto (q := 77) dX9_order_73 rfl ?_
      refine ex_istore (ls' := [some (.ref 55), some (.int 1), some (.int (nI q)), some (.int p.1), some (.int (nI p.2)), some (.int 1), some (.int (nI (cn T os))), some (.int 1)]) dX9_order_77 rfl (Nat.le_of_ble_eq_true rfl) rfl rfl ?_
      refine ex_iload dX9_order_79 rfl rfl ?_
      refine ex_if_eq (q := 91) (q2 := 84) dX9_order_81 rfl rfl (fun hh => absurd hh (by decide)) (fun _ => ?_)
      refine ex_aload_n dX9_order_84 rfl rfl ?_
      refine ex_callV (a := 55) (rest := []) dX9_order_85 rfl qp_8_253 rfl rfl rfl rfl rfl (Nat.le_of_ble_eq_true rfl) (k_rowDigits hor1) (Nat.le_of_ble_eq_true rfl) ?_
      show Ex qm_lay _ mX9_order 88 [some (.ref 55), some (.int 1), some (.int (nI q)), some (.int p.1), some (.int (nI p.2)), some (.int 1), some (.int (nI (cn T os))), some (.int 1)] [.int (nI (dg os))] σ1 _ _
      refine ex_goto (q := 93) dX9_order_88 rfl ?_
      refine ex_istore (ls' := [some (.ref 55), some (.int 1), some (.int (nI q)), some (.int p.1), some (.int (nI (dg os))), some (.int 1), some (.int (nI (cn T os))), some (.int 1)]) dX9_order_93 rfl (Nat.le_of_ble_eq_true rfl) rfl rfl ?_
      refine ex_iload dX9_order_95 rfl rfl ?_
      refine ex_if_eq (q := 105) (q2 := 100) dX9_order_97 rfl rfl (fun hh => absurd hh (by decide)) (fun _ => ?_)
      refine ex_iload dX9_order_100 rfl rfl ?_
      refine ex_goto (q := 106) dX9_order_102 rfl ?_
      refine ex_istore_n (ls' := [some (.ref 55), some (.int 1), some (.int (nI q)), some (.int (nI (cn T os))), some (.int (nI (dg os))), some (.int 1), some (.int (nI (cn T os))), some (.int 1)]) dX9_order_106 rfl (Nat.le_of_ble_eq_true rfl) rfl rfl ?_
      refine ex_aload_n dX9_order_107 rfl rfl ?_
      refine ex_callV (a := 55) (rest := []) dX9_order_108 rfl qp_8_256 rfl rfl rfl rfl rfl (Nat.le_of_ble_eq_true rfl) (hO2) (Nat.le_of_ble_eq_true rfl) ?_
      show Ex qm_lay _ mX9_order 111 [some (.ref 55), some (.int 1), some (.int (nI q)), some (.int (nI (cn T os))), some (.int (nI (dg os))), some (.int 1), some (.int (nI (cn T os))), some (.int 1)] [.int 1] σ2 _ _
      refine ex_istore (ls' := [some (.ref 55), some (.int 1), some (.int (nI q)), some (.int (nI (cn T os))), some (.int (nI (dg os))), some (.int 1), some (.int (nI (cn T os))), some (.int 1)]) dX9_order_111 rfl (Nat.le_of_ble_eq_true rfl) rfl rfl ?_
      refine ex_goto (q := 37) dX9_order_113 rfl ?_
      exact hE
    · by_cases c2 : p.1 < nI (cn T os)
      · have e1 : st2 true p (cn T os) (dg os) = (nI (cn T os), dg os) := if_pos (Or.inr (decide_eq_true c2))
        rw [e1]
        obtain ⟨σ3, hE, hM3, hs3⟩ := ih o2 (some (.int (nI (cn T os)))) (some (.int 1)) (nI (cn T os), dg os) σ2 hch2.2 (fun o ho => hel o (List.mem_cons_of_mem _ ho)) (dg_lt hor.2.1 (fun l hl => Nat.lt_of_lt_of_le (hos l hl) hL)) hM2 hR2
        refine ⟨σ3, ?_, hM3, hs13.tr hs3⟩
        refine ex_iload dX9_order_37 rfl rfl ?_
        refine ex_if_eq (q := 116) (q2 := 42) dX9_order_39 rfl rfl (fun hh => absurd hh (by decide)) (fun _ => ?_)
        refine ex_aload_n dX9_order_42 rfl rfl ?_
        refine ex_callV (a := 55) (rest := []) dX9_order_43 rfl qp_8_250 rfl rfl rfl rfl rfl (Nat.le_of_ble_eq_true rfl) (hO) (Nat.le_of_ble_eq_true rfl) ?_
        show Ex qm_lay _ mX9_order 46 [some (.ref 55), some (.int 1), some (.int (nI q)), some (.int p.1), some (.int (nI p.2)), some (.int 1), x, y] [.int (nI (cn T os))] σ1 _ _
        refine ex_istore (ls' := [some (.ref 55), some (.int 1), some (.int (nI q)), some (.int p.1), some (.int (nI p.2)), some (.int 1), some (.int (nI (cn T os))), y]) dX9_order_46 rfl (Nat.le_of_ble_eq_true rfl) rfl rfl ?_
        refine ex_iload_n dX9_order_48 rfl rfl ?_
        refine ex_iconst (x := (-1)) dX9_order_49 rfl rfl ?_
        refine ex_icmp_eq (q := 72) (q2 := 53) dX9_order_50 rfl rfl (fun hh => absurd hh (c1)) (fun _ => ?_)
        refine ex_iload_n dX9_order_53 rfl rfl ?_
        refine ex_if_ne (q := 66) (q2 := 57) dX9_order_54 rfl rfl (fun _ => ?_) (fun hh => absurd (by decide) hh)
        refine ex_iload dX9_order_66 rfl rfl ?_
        refine ex_iload_n dX9_order_68 rfl rfl ?_
        refine ex_icmp_le (q := 76) (q2 := 72) dX9_order_69 rfl rfl (fun hh => absurd hh (Int32.not_le.mpr c2)) (fun _ => ?_)
        refine ex_iconst (x := 1) dX9_order_72 rfl rfl ?_
        refine ex_goto (q := 77) dX9_order_73 rfl ?_
        refine ex_istore (ls' := [some (.ref 55), some (.int 1), some (.int (nI q)), some (.int p.1), some (.int (nI p.2)), some (.int 1), some (.int (nI (cn T os))), some (.int 1)]) dX9_order_77 rfl (Nat.le_of_ble_eq_true rfl) rfl rfl ?_
        refine ex_iload dX9_order_79 rfl rfl ?_
        refine ex_if_eq (q := 91) (q2 := 84) dX9_order_81 rfl rfl (fun hh => absurd hh (by decide)) (fun _ => ?_)
        refine ex_aload_n dX9_order_84 rfl rfl ?_
        refine ex_callV (a := 55) (rest := []) dX9_order_85 rfl qp_8_253 rfl rfl rfl rfl rfl (Nat.le_of_ble_eq_true rfl) (k_rowDigits hor1) (Nat.le_of_ble_eq_true rfl) ?_
        show Ex qm_lay _ mX9_order 88 [some (.ref 55), some (.int 1), some (.int (nI q)), some (.int p.1), some (.int (nI p.2)), some (.int 1), some (.int (nI (cn T os))), some (.int 1)] [.int (nI (dg os))] σ1 _ _
        refine ex_goto (q := 93) dX9_order_88 rfl ?_
        refine ex_istore (ls' := [some (.ref 55), some (.int 1), some (.int (nI q)), some (.int p.1), some (.int (nI (dg os))), some (.int 1), some (.int (nI (cn T os))), some (.int 1)]) dX9_order_93 rfl (Nat.le_of_ble_eq_true rfl) rfl rfl ?_
        refine ex_iload dX9_order_95 rfl rfl ?_
        refine ex_if_eq (q := 105) (q2 := 100) dX9_order_97 rfl rfl (fun hh => absurd hh (by decide)) (fun _ => ?_)
        refine ex_iload dX9_order_100 rfl rfl ?_
        refine ex_goto (q := 106) dX9_order_102 rfl ?_
        refine ex_istore_n (ls' := [some (.ref 55), some (.int 1), some (.int (nI q)), some (.int (nI (cn T os))), some (.int (nI (dg os))), some (.int 1), some (.int (nI (cn T os))), some (.int 1)]) dX9_order_106 rfl (Nat.le_of_ble_eq_true rfl) rfl rfl ?_
        refine ex_aload_n dX9_order_107 rfl rfl ?_
        refine ex_callV (a := 55) (rest := []) dX9_order_108 rfl qp_8_256 rfl rfl rfl rfl rfl (Nat.le_of_ble_eq_true rfl) (hO2) (Nat.le_of_ble_eq_true rfl) ?_
        show Ex qm_lay _ mX9_order 111 [some (.ref 55), some (.int 1), some (.int (nI q)), some (.int (nI (cn T os))), some (.int (nI (dg os))), some (.int 1), some (.int (nI (cn T os))), some (.int 1)] [.int 1] σ2 _ _
        refine ex_istore (ls' := [some (.ref 55), some (.int 1), some (.int (nI q)), some (.int (nI (cn T os))), some (.int (nI (dg os))), some (.int 1), some (.int (nI (cn T os))), some (.int 1)]) dX9_order_111 rfl (Nat.le_of_ble_eq_true rfl) rfl rfl ?_
        refine ex_goto (q := 37) dX9_order_113 rfl ?_
        exact hE
      · have e1 : st2 true p (cn T os) (dg os) = p := if_neg (fun z => z.elim c1 (fun z => c2 (of_decide_eq_true z)))
        rw [e1]
        obtain ⟨σ3, hE, hM3, hs3⟩ := ih o2 (some (.int (nI (cn T os)))) (some (.int 0)) p σ2 hch2.2 (fun o ho => hel o (List.mem_cons_of_mem _ ho)) hp hM2 hR2
        refine ⟨σ3, ?_, hM3, hs13.tr hs3⟩
        refine ex_iload dX9_order_37 rfl rfl ?_
        refine ex_if_eq (q := 116) (q2 := 42) dX9_order_39 rfl rfl (fun hh => absurd hh (by decide)) (fun _ => ?_)
        refine ex_aload_n dX9_order_42 rfl rfl ?_
        refine ex_callV (a := 55) (rest := []) dX9_order_43 rfl qp_8_250 rfl rfl rfl rfl rfl (Nat.le_of_ble_eq_true rfl) (hO) (Nat.le_of_ble_eq_true rfl) ?_
        show Ex qm_lay _ mX9_order 46 [some (.ref 55), some (.int 1), some (.int (nI q)), some (.int p.1), some (.int (nI p.2)), some (.int 1), x, y] [.int (nI (cn T os))] σ1 _ _
        refine ex_istore (ls' := [some (.ref 55), some (.int 1), some (.int (nI q)), some (.int p.1), some (.int (nI p.2)), some (.int 1), some (.int (nI (cn T os))), y]) dX9_order_46 rfl (Nat.le_of_ble_eq_true rfl) rfl rfl ?_
        refine ex_iload_n dX9_order_48 rfl rfl ?_
        refine ex_iconst (x := (-1)) dX9_order_49 rfl rfl ?_
        refine ex_icmp_eq (q := 72) (q2 := 53) dX9_order_50 rfl rfl (fun hh => absurd hh (c1)) (fun _ => ?_)
        refine ex_iload_n dX9_order_53 rfl rfl ?_
        refine ex_if_ne (q := 66) (q2 := 57) dX9_order_54 rfl rfl (fun _ => ?_) (fun hh => absurd (by decide) hh)
        refine ex_iload dX9_order_66 rfl rfl ?_
        refine ex_iload_n dX9_order_68 rfl rfl ?_
        refine ex_icmp_le (q := 76) (q2 := 72) dX9_order_69 rfl rfl (fun _ => ?_) (fun hh => absurd (Int32.not_lt.mp c2) hh)
        refine ex_iconst (x := 0) dX9_order_76 rfl rfl ?_
        refine ex_istore (ls' := [some (.ref 55), some (.int 1), some (.int (nI q)), some (.int p.1), some (.int (nI p.2)), some (.int 1), some (.int (nI (cn T os))), some (.int 0)]) dX9_order_77 rfl (Nat.le_of_ble_eq_true rfl) rfl rfl ?_
        refine ex_iload dX9_order_79 rfl rfl ?_
        refine ex_if_eq (q := 91) (q2 := 84) dX9_order_81 rfl rfl (fun _ => ?_) (fun hh => absurd (by decide) hh)
        refine ex_iload dX9_order_91 rfl rfl ?_
        refine ex_istore (ls' := [some (.ref 55), some (.int 1), some (.int (nI q)), some (.int p.1), some (.int (nI p.2)), some (.int 1), some (.int (nI (cn T os))), some (.int 0)]) dX9_order_93 rfl (Nat.le_of_ble_eq_true rfl) rfl rfl ?_
        refine ex_iload dX9_order_95 rfl rfl ?_
        refine ex_if_eq (q := 105) (q2 := 100) dX9_order_97 rfl rfl (fun _ => ?_) (fun hh => absurd (by decide) hh)
        refine ex_iload_n dX9_order_105 rfl rfl ?_
        refine ex_istore_n (ls' := [some (.ref 55), some (.int 1), some (.int (nI q)), some (.int p.1), some (.int (nI p.2)), some (.int 1), some (.int (nI (cn T os))), some (.int 0)]) dX9_order_106 rfl (Nat.le_of_ble_eq_true rfl) rfl rfl ?_
        refine ex_aload_n dX9_order_107 rfl rfl ?_
        refine ex_callV (a := 55) (rest := []) dX9_order_108 rfl qp_8_256 rfl rfl rfl rfl rfl (Nat.le_of_ble_eq_true rfl) (hO2) (Nat.le_of_ble_eq_true rfl) ?_
        show Ex qm_lay _ mX9_order 111 [some (.ref 55), some (.int 1), some (.int (nI q)), some (.int p.1), some (.int (nI p.2)), some (.int 1), some (.int (nI (cn T os))), some (.int 0)] [.int 1] σ2 _ _
        refine ex_istore (ls' := [some (.ref 55), some (.int 1), some (.int (nI q)), some (.int p.1), some (.int (nI p.2)), some (.int 1), some (.int (nI (cn T os))), some (.int 0)]) dX9_order_111 rfl (Nat.le_of_ble_eq_true rfl) rfl rfl ?_
        refine ex_goto (q := 37) dX9_order_113 rfl ?_
        exact hE

set_option maxHeartbeats 2000000 in
theorem j_order {T : tn_T} {X : gx_T} {P : gt_T} {Im : gi_T} {S : gs_T} (hG : gg_ok (T, X, P, Im, S)) (so q : Int32) : J mX8_order mX9_order [.int so, .int q] (T, X, P, Im, S) := by
  have hT : tn_ok T := hG.1
  have hX : gx_ok X := hG.2.1
  have hP : gt_ok P := hG.2.2.1
  have hI : gi_ok T (gx_n X) Im := hG.2.2.2.1
  have hS : gs_ok S := hG.2.2.2.2.1
  have hw : tn_w T < gx_n X := hG.2.2.2.2.2
  have hL := hT.1
  have hw6 := hT.2.1
  have hu := tn_u_lt hT
  have hX6 := hX.2.1
  have hP6 := hP.1
  have hnb := tn_nb_bits hT
  have h128 : 2 ^ tn_L T ≤ 128 := Nat.pow_le_pow_right (n := 2) (by omega) hL
  have hnb7 : tn_nb T < 128 := by omega
  by_cases c1 : tn_in so 0 1 = true ∧ tn_in q 0 1 = true
  · obtain ⟨c1, c2⟩ := c1
    obtain ⟨so, hso, rfl⟩ := tn_in_of (n := 1) (by decide) c1
    obtain ⟨q, hq, rfl⟩ := tn_in_of (n := 1) (by decide) c2
    obtain ⟨os, ps, eP, eo⟩ := pm_first (tn_nb T) hnb7
    rw [show bl 7 (tn_nb T) = tn_ul T by rw [← bl_7 hT.1 hnb.1]; exact ul_bl hT] at eP eo
    obtain ⟨hch, hel⟩ := pm_good (tn_nb T) hnb7
    rw [show bl 7 (tn_nb T) = tn_ul T by rw [← bl_7 hT.1 hnb.1]; exact ul_bl hT] at hch hel
    rw [eP] at hch hel
    have helL : ∀ o ∈ os :: ps, ∀ l ∈ o, l < tn_L T := fun o ho l hl => bit_lt hnb.1 ((hel o ho).2 l hl).2
    by_cases hs0 : so = 0
    · subst hs0
      have eF : pf false T 0 7 (tn_ul T) (2147483647, 0) = ((os :: ps).foldl (fun p os => st2 false p (cn T os) (dg os)) (-1, 0)) := by
        have s1 := st_first false (tn_pk_le (tn_cb (tn_bl T os)) 12) (dg os)
        show (pm 7 (tn_ul T)).foldl (fun p os => st1 false p (cn T os) (dg os)) (2147483647, 0) = _
        rw [eP, List.foldl_cons, List.foldl_cons]
        rw [show st1 false (2147483647, 0) (cn T os) (dg os) = (nI (cn T os), dg os) from s1.2, show st2 false (-1, 0) (cn T os) (dg os) = (nI (cn T os), dg os) from s1.1]
        exact (st2_fold false (cn T) dg (fun os => Nat.lt_of_le_of_lt (tn_pk_le _ 12) (by decide)) ps _ (nI_ne_m1 (Nat.lt_of_le_of_lt (tn_pk_le _ 12) (by decide)))).symm
      refine J.u (.int (if q = 0 then ((os :: ps).foldl (fun p os => st2 false p (cn T os) (dg os)) (-1, 0)).1 else nI ((os :: ps).foldl (fun p os => st2 false p (cn T os) (dg os)) (-1, 0)).2)) (T, X, P, Im, S) hG (fun σ hC => ?_) (fun σ hM => ?_)
      · have h : TR σ 9 18 T := hC.1
        obtain ⟨σ1, hO1, hT1, hs1⟩ := c_becomes_10 hT h
        have hC1 := CG.think hG hC hs1
        obtain ⟨σ2, v2, hO2, hT2, hb2, hd2, σ3, hs3, hf2⟩ := c_run_false hT hT1
        rw [eF] at hb2 hd2
        obtain ⟨σ4, hs4, hs5⟩ := hf2.split
        have hC2 := CG.aux hG (CG.think hG (CG.aux hG hC1 (hs3.wid (by omega) (by omega))) hs4) (hs5.wid (by omega) (by omega))
        refine ⟨σ2, ?_, hC2, ((hs1.wid (i3 := 0) (i4 := 27) (j3 := 0) (j4 := 42) (by omega) (by omega)).tr (hs3.wid (by omega) (by omega))).tr ((hs4.wid (by omega) (by omega)).tr (hs5.wid (by omega) (by omega)))⟩
        refine Ok.of (ls := [some (.ref 54), some (.int 0), some (.int (nI q))]) (Nat.le_of_ble_eq_true rfl) rfl ?_
        refine ex_iload_n dX8_order_0 rfl rfl ?_
        refine ex_if_lt (q := 18) (q2 := 4) dX8_order_1 rfl rfl (fun hh => absurd hh (by decide)) (fun _ => ?_)
        refine ex_iload_n dX8_order_4 rfl rfl ?_
        refine ex_iconst (x := 1) dX8_order_5 rfl rfl ?_
        refine ex_icmp_gt (q := 18) (q2 := 9) dX8_order_6 rfl rfl (fun hh => absurd hh (by decide)) (fun _ => ?_)
        refine ex_iload_n dX8_order_9 rfl rfl ?_
        refine ex_if_lt (q := 18) (q2 := 13) dX8_order_10 rfl rfl (fun hh => absurd hh (nI_pos (by omega))) (fun _ => ?_)
        refine ex_iload_n dX8_order_13 rfl rfl ?_
        refine ex_iconst (x := 1) dX8_order_14 rfl rfl ?_
        refine ex_icmp_le (q := 21) (q2 := 18) dX8_order_15 rfl rfl (fun _ => ?_) (fun hh => absurd (nI_le (a := q) (b := 1) (by omega) (by omega)) hh)
        refine ex_aload_n dX8_order_21 rfl rfl ?_
        refine ex_getR (b := 28) dX8_order_22 rfl qp_7_16 rfl rfl ?_
        refine ex_aload_n dX8_order_25 rfl rfl ?_
        refine ex_getR (b := 22) dX8_order_26 rfl qp_7_10 rfl rfl ?_
        refine ex_callV (a := 28) (rest := []) dX8_order_29 rfl qp_7_172 rfl rfl rfl rfl rfl (Nat.le_of_ble_eq_true rfl) (hO1) (Nat.le_of_ble_eq_true rfl) ?_
        show Ex qm_lay _ mX8_order 32 [some (.ref 54), some (.int 0), some (.int (nI q))] [] σ1 _ _
        refine ex_aload_n dX8_order_32 rfl rfl ?_
        refine ex_getR (b := 50) dX8_order_33 rfl qp_7_50 rfl rfl ?_
        refine ex_aload_n dX8_order_36 rfl rfl ?_
        refine ex_getR (b := 28) dX8_order_37 rfl qp_7_16 rfl rfl ?_
        refine ex_iload_n dX8_order_40 rfl rfl ?_
        refine ex_iconst (x := 1) dX8_order_41 rfl rfl ?_
        refine ex_icmp_ne (q := 49) (q2 := 45) dX8_order_42 rfl rfl (fun _ => ?_) (fun hh => absurd (by decide) hh)
        refine ex_iconst (x := 0) dX8_order_49 rfl rfl ?_
        refine ex_callV (a := 50) (rest := []) dX8_order_50 rfl qp_7_176 rfl rfl rfl rfl rfl (Nat.le_of_ble_eq_true rfl) (hO2) (Nat.le_of_ble_eq_true rfl) ?_
        show Ex qm_lay _ mX8_order 53 [some (.ref 54), some (.int 0), some (.int (nI q))] [] σ2 _ _
        refine ex_iload_n dX8_order_53 rfl rfl ?_
        refine ex_if_ne (q := 67) (q2 := 57) dX8_order_54 rfl rfl (fun h54 => ?_) (fun h54 => ?_)
        · have hq0 : ¬ q = 0 := fun z => h54 (congrArg nI z)
          refine ex_aload_n dX8_order_67 rfl rfl ?_
          refine ex_getR (b := 50) dX8_order_68 rfl qp_7_50 rfl rfl ?_
          refine ex_getI (s := 24) (x := nI (((os :: ps).foldl (fun p os => st2 false p (cn T os) (dg os)) (-1, 0)).2)) dX8_order_71 rfl qp_7_183 rfl rfl (hd2) ?_
          exact ex_iret dX8_order_74 rfl (by first | rw [if_neg hq0] | rw [if_pos hq0]) rfl
        · have hq0 : q = 0 := (nI_eq (b := 0) (by omega) (by decide)).mp (Decidable.not_not.mp h54)
          refine ex_aload_n dX8_order_57 rfl rfl ?_
          refine ex_getR (b := 50) dX8_order_58 rfl qp_7_50 rfl rfl ?_
          refine ex_getI (s := 23) (x := ((os :: ps).foldl (fun p os => st2 false p (cn T os) (dg os)) (-1, 0)).1) dX8_order_61 rfl qp_7_180 rfl rfl (hb2) ?_
          refine ex_goto (q := 74) dX8_order_64 rfl ?_
          exact ex_iret dX8_order_74 rfl (by first | rw [if_neg hq0] | rw [if_pos hq0]) rfl
      · have h : MR σ T := hM.1
        obtain ⟨σ1, hO1, hR1, hs1⟩ := k_begins hT h hnb7
        rw [ul_bl hT, ← eo] at hR1
        obtain ⟨σ2, hE, hM2, hs2⟩ := l_orderM0 hG hq ps os none none (-1, 0) σ1 hch helL (by decide) (MG.aux hM (hs1.wid (by omega) (by omega))) hR1
        refine ⟨σ2, ?_, hM2, (hs1.wid (by omega) (by omega)).tr hs2⟩
        refine Ok.of (ls := [some (.ref 55), some (.int 0), some (.int (nI q)), none, none, none, none, none]) (Nat.le_of_ble_eq_true rfl) rfl ?_
        refine ex_iload_n dX9_order_0 rfl rfl ?_
        refine ex_iconst (x := 0) dX9_order_1 rfl rfl ?_
        refine ex_iconst (x := 1) dX9_order_2 rfl rfl ?_
        refine ex_callS (rest := []) dX9_order_3 rfl qp_8_81 rfl rfl rfl (Nat.le_of_ble_eq_true rfl) (k_in _ _ _ _) (Nat.le_of_ble_eq_true rfl) ?_
        show Ex qm_lay _ mX9_order 6 [some (.ref 55), some (.int 0), some (.int (nI q)), none, none, none, none, none] [.int (b2i (tn_in 0 0 1))] σ _ _
        refine ex_if_eq (q := 18) (q2 := 9) dX9_order_6 rfl rfl (fun hh => absurd hh (b2i_n0.mpr (by decide))) (fun _ => ?_)
        refine ex_iload_n dX9_order_9 rfl rfl ?_
        refine ex_iconst (x := 0) dX9_order_10 rfl rfl ?_
        refine ex_iconst (x := 1) dX9_order_11 rfl rfl ?_
        refine ex_callS (rest := []) dX9_order_12 rfl qp_8_81 rfl rfl rfl (Nat.le_of_ble_eq_true rfl) (k_in _ _ _ _) (Nat.le_of_ble_eq_true rfl) ?_
        show Ex qm_lay _ mX9_order 15 [some (.ref 55), some (.int 0), some (.int (nI q)), none, none, none, none, none] [.int (b2i (tn_in (nI q) 0 1))] σ _ _
        refine ex_if_ne (q := 21) (q2 := 18) dX9_order_15 rfl rfl (fun _ => ?_) (fun hh => absurd (b2i_n0.mpr (c2)) hh)
        refine ex_aload_n dX9_order_21 rfl rfl ?_
        refine ex_aload_n dX9_order_22 rfl rfl ?_
        refine ex_callV (a := 55) (rest := [.ref 55]) dX9_order_23 rfl qp_8_244 rfl rfl rfl rfl rfl (Nat.le_of_ble_eq_true rfl) (k_notBuilt hT h) (Nat.le_of_ble_eq_true rfl) ?_
        show Ex qm_lay _ mX9_order 26 [some (.ref 55), some (.int 0), some (.int (nI q)), none, none, none, none, none] [.int (nI (tn_nb T)), .ref 55] σ _ _
        refine ex_callV (a := 55) (rest := []) dX9_order_26 rfl qp_8_247 rfl rfl rfl rfl rfl (Nat.le_of_ble_eq_true rfl) (hO1) (Nat.le_of_ble_eq_true rfl) ?_
        show Ex qm_lay _ mX9_order 29 [some (.ref 55), some (.int 0), some (.int (nI q)), none, none, none, none, none] [] σ1 _ _
        refine ex_iconst (x := (-1)) dX9_order_29 rfl rfl ?_
        refine ex_istore_n (ls' := [some (.ref 55), some (.int 0), some (.int (nI q)), some (.int (-1)), none, none, none, none]) dX9_order_30 rfl (Nat.le_of_ble_eq_true rfl) rfl rfl ?_
        refine ex_iconst (x := 0) dX9_order_31 rfl rfl ?_
        refine ex_istore (ls' := [some (.ref 55), some (.int 0), some (.int (nI q)), some (.int (-1)), some (.int 0), none, none, none]) dX9_order_32 rfl (Nat.le_of_ble_eq_true rfl) rfl rfl ?_
        refine ex_iconst (x := 1) dX9_order_34 rfl rfl ?_
        refine ex_istore (ls' := [some (.ref 55), some (.int 0), some (.int (nI q)), some (.int (-1)), some (.int 0), some (.int 1), none, none]) dX9_order_35 rfl (Nat.le_of_ble_eq_true rfl) rfl rfl ?_
        exact hE
    · have hs1 : so = 1 := by omega
      subst hs1
      have eF : pf true T 0 7 (tn_ul T) ((-1), 0) = ((os :: ps).foldl (fun p os => st2 true p (cn T os) (dg os)) (-1, 0)) := by
        have s1 := st_first true (tn_pk_le (tn_cb (tn_bl T os)) 12) (dg os)
        show (pm 7 (tn_ul T)).foldl (fun p os => st1 true p (cn T os) (dg os)) ((-1), 0) = _
        rw [eP, List.foldl_cons, List.foldl_cons]
        rw [show st1 true ((-1), 0) (cn T os) (dg os) = (nI (cn T os), dg os) from s1.2, show st2 true (-1, 0) (cn T os) (dg os) = (nI (cn T os), dg os) from s1.1]
        exact (st2_fold true (cn T) dg (fun os => Nat.lt_of_le_of_lt (tn_pk_le _ 12) (by decide)) ps _ (nI_ne_m1 (Nat.lt_of_le_of_lt (tn_pk_le _ 12) (by decide)))).symm
      refine J.u (.int (if q = 0 then ((os :: ps).foldl (fun p os => st2 true p (cn T os) (dg os)) (-1, 0)).1 else nI ((os :: ps).foldl (fun p os => st2 true p (cn T os) (dg os)) (-1, 0)).2)) (T, X, P, Im, S) hG (fun σ hC => ?_) (fun σ hM => ?_)
      · have h : TR σ 9 18 T := hC.1
        obtain ⟨σ1, hO1, hT1, hs1⟩ := c_becomes_10 hT h
        have hC1 := CG.think hG hC hs1
        obtain ⟨σ2, v2, hO2, hT2, hb2, hd2, σ3, hs3, hf2⟩ := c_run_true hT hT1
        rw [eF] at hb2 hd2
        obtain ⟨σ4, hs4, hs5⟩ := hf2.split
        have hC2 := CG.aux hG (CG.think hG (CG.aux hG hC1 (hs3.wid (by omega) (by omega))) hs4) (hs5.wid (by omega) (by omega))
        refine ⟨σ2, ?_, hC2, ((hs1.wid (i3 := 0) (i4 := 27) (j3 := 0) (j4 := 42) (by omega) (by omega)).tr (hs3.wid (by omega) (by omega))).tr ((hs4.wid (by omega) (by omega)).tr (hs5.wid (by omega) (by omega)))⟩
        refine Ok.of (ls := [some (.ref 54), some (.int 1), some (.int (nI q))]) (Nat.le_of_ble_eq_true rfl) rfl ?_
        refine ex_iload_n dX8_order_0 rfl rfl ?_
        refine ex_if_lt (q := 18) (q2 := 4) dX8_order_1 rfl rfl (fun hh => absurd hh (by decide)) (fun _ => ?_)
        refine ex_iload_n dX8_order_4 rfl rfl ?_
        refine ex_iconst (x := 1) dX8_order_5 rfl rfl ?_
        refine ex_icmp_gt (q := 18) (q2 := 9) dX8_order_6 rfl rfl (fun hh => absurd hh (by decide)) (fun _ => ?_)
        refine ex_iload_n dX8_order_9 rfl rfl ?_
        refine ex_if_lt (q := 18) (q2 := 13) dX8_order_10 rfl rfl (fun hh => absurd hh (nI_pos (by omega))) (fun _ => ?_)
        refine ex_iload_n dX8_order_13 rfl rfl ?_
        refine ex_iconst (x := 1) dX8_order_14 rfl rfl ?_
        refine ex_icmp_le (q := 21) (q2 := 18) dX8_order_15 rfl rfl (fun _ => ?_) (fun hh => absurd (nI_le (a := q) (b := 1) (by omega) (by omega)) hh)
        refine ex_aload_n dX8_order_21 rfl rfl ?_
        refine ex_getR (b := 28) dX8_order_22 rfl qp_7_16 rfl rfl ?_
        refine ex_aload_n dX8_order_25 rfl rfl ?_
        refine ex_getR (b := 22) dX8_order_26 rfl qp_7_10 rfl rfl ?_
        refine ex_callV (a := 28) (rest := []) dX8_order_29 rfl qp_7_172 rfl rfl rfl rfl rfl (Nat.le_of_ble_eq_true rfl) (hO1) (Nat.le_of_ble_eq_true rfl) ?_
        show Ex qm_lay _ mX8_order 32 [some (.ref 54), some (.int 1), some (.int (nI q))] [] σ1 _ _
        refine ex_aload_n dX8_order_32 rfl rfl ?_
        refine ex_getR (b := 50) dX8_order_33 rfl qp_7_50 rfl rfl ?_
        refine ex_aload_n dX8_order_36 rfl rfl ?_
        refine ex_getR (b := 28) dX8_order_37 rfl qp_7_16 rfl rfl ?_
        refine ex_iload_n dX8_order_40 rfl rfl ?_
        refine ex_iconst (x := 1) dX8_order_41 rfl rfl ?_
        refine ex_icmp_ne (q := 49) (q2 := 45) dX8_order_42 rfl rfl (fun hh => absurd hh (by decide)) (fun _ => ?_)
        refine ex_iconst (x := 1) dX8_order_45 rfl rfl ?_
        refine ex_goto (q := 50) dX8_order_46 rfl ?_
        refine ex_callV (a := 50) (rest := []) dX8_order_50 rfl qp_7_176 rfl rfl rfl rfl rfl (Nat.le_of_ble_eq_true rfl) (hO2) (Nat.le_of_ble_eq_true rfl) ?_
        show Ex qm_lay _ mX8_order 53 [some (.ref 54), some (.int 1), some (.int (nI q))] [] σ2 _ _
        refine ex_iload_n dX8_order_53 rfl rfl ?_
        refine ex_if_ne (q := 67) (q2 := 57) dX8_order_54 rfl rfl (fun h54 => ?_) (fun h54 => ?_)
        · have hq0 : ¬ q = 0 := fun z => h54 (congrArg nI z)
          refine ex_aload_n dX8_order_67 rfl rfl ?_
          refine ex_getR (b := 50) dX8_order_68 rfl qp_7_50 rfl rfl ?_
          refine ex_getI (s := 24) (x := nI (((os :: ps).foldl (fun p os => st2 true p (cn T os) (dg os)) (-1, 0)).2)) dX8_order_71 rfl qp_7_183 rfl rfl (hd2) ?_
          exact ex_iret dX8_order_74 rfl (by first | rw [if_neg hq0] | rw [if_pos hq0]) rfl
        · have hq0 : q = 0 := (nI_eq (b := 0) (by omega) (by decide)).mp (Decidable.not_not.mp h54)
          refine ex_aload_n dX8_order_57 rfl rfl ?_
          refine ex_getR (b := 50) dX8_order_58 rfl qp_7_50 rfl rfl ?_
          refine ex_getI (s := 23) (x := ((os :: ps).foldl (fun p os => st2 true p (cn T os) (dg os)) (-1, 0)).1) dX8_order_61 rfl qp_7_180 rfl rfl (hb2) ?_
          refine ex_goto (q := 74) dX8_order_64 rfl ?_
          exact ex_iret dX8_order_74 rfl (by first | rw [if_neg hq0] | rw [if_pos hq0]) rfl
      · have h : MR σ T := hM.1
        obtain ⟨σ1, hO1, hR1, hs1⟩ := k_begins hT h hnb7
        rw [ul_bl hT, ← eo] at hR1
        obtain ⟨σ2, hE, hM2, hs2⟩ := l_orderM1 hG hq ps os none none (-1, 0) σ1 hch helL (by decide) (MG.aux hM (hs1.wid (by omega) (by omega))) hR1
        refine ⟨σ2, ?_, hM2, (hs1.wid (by omega) (by omega)).tr hs2⟩
        refine Ok.of (ls := [some (.ref 55), some (.int 1), some (.int (nI q)), none, none, none, none, none]) (Nat.le_of_ble_eq_true rfl) rfl ?_
        refine ex_iload_n dX9_order_0 rfl rfl ?_
        refine ex_iconst (x := 0) dX9_order_1 rfl rfl ?_
        refine ex_iconst (x := 1) dX9_order_2 rfl rfl ?_
        refine ex_callS (rest := []) dX9_order_3 rfl qp_8_81 rfl rfl rfl (Nat.le_of_ble_eq_true rfl) (k_in _ _ _ _) (Nat.le_of_ble_eq_true rfl) ?_
        show Ex qm_lay _ mX9_order 6 [some (.ref 55), some (.int 1), some (.int (nI q)), none, none, none, none, none] [.int (b2i (tn_in 1 0 1))] σ _ _
        refine ex_if_eq (q := 18) (q2 := 9) dX9_order_6 rfl rfl (fun hh => absurd hh (b2i_n0.mpr (by decide))) (fun _ => ?_)
        refine ex_iload_n dX9_order_9 rfl rfl ?_
        refine ex_iconst (x := 0) dX9_order_10 rfl rfl ?_
        refine ex_iconst (x := 1) dX9_order_11 rfl rfl ?_
        refine ex_callS (rest := []) dX9_order_12 rfl qp_8_81 rfl rfl rfl (Nat.le_of_ble_eq_true rfl) (k_in _ _ _ _) (Nat.le_of_ble_eq_true rfl) ?_
        show Ex qm_lay _ mX9_order 15 [some (.ref 55), some (.int 1), some (.int (nI q)), none, none, none, none, none] [.int (b2i (tn_in (nI q) 0 1))] σ _ _
        refine ex_if_ne (q := 21) (q2 := 18) dX9_order_15 rfl rfl (fun _ => ?_) (fun hh => absurd (b2i_n0.mpr (c2)) hh)
        refine ex_aload_n dX9_order_21 rfl rfl ?_
        refine ex_aload_n dX9_order_22 rfl rfl ?_
        refine ex_callV (a := 55) (rest := [.ref 55]) dX9_order_23 rfl qp_8_244 rfl rfl rfl rfl rfl (Nat.le_of_ble_eq_true rfl) (k_notBuilt hT h) (Nat.le_of_ble_eq_true rfl) ?_
        show Ex qm_lay _ mX9_order 26 [some (.ref 55), some (.int 1), some (.int (nI q)), none, none, none, none, none] [.int (nI (tn_nb T)), .ref 55] σ _ _
        refine ex_callV (a := 55) (rest := []) dX9_order_26 rfl qp_8_247 rfl rfl rfl rfl rfl (Nat.le_of_ble_eq_true rfl) (hO1) (Nat.le_of_ble_eq_true rfl) ?_
        show Ex qm_lay _ mX9_order 29 [some (.ref 55), some (.int 1), some (.int (nI q)), none, none, none, none, none] [] σ1 _ _
        refine ex_iconst (x := (-1)) dX9_order_29 rfl rfl ?_
        refine ex_istore_n (ls' := [some (.ref 55), some (.int 1), some (.int (nI q)), some (.int (-1)), none, none, none, none]) dX9_order_30 rfl (Nat.le_of_ble_eq_true rfl) rfl rfl ?_
        refine ex_iconst (x := 0) dX9_order_31 rfl rfl ?_
        refine ex_istore (ls' := [some (.ref 55), some (.int 1), some (.int (nI q)), some (.int (-1)), some (.int 0), none, none, none]) dX9_order_32 rfl (Nat.le_of_ble_eq_true rfl) rfl rfl ?_
        refine ex_iconst (x := 1) dX9_order_34 rfl rfl ?_
        refine ex_istore (ls' := [some (.ref 55), some (.int 1), some (.int (nI q)), some (.int (-1)), some (.int 0), some (.int 1), none, none]) dX9_order_35 rfl (Nat.le_of_ble_eq_true rfl) rfl rfl ?_
        exact hE
  · refine J.q hG (.int (-2)) (fun σ hC => ?_) (fun σ hM => ?_)
    · have h : TR σ 9 18 T := hC.1
      refine Ok.of (ls := [some (.ref 54), some (.int so), some (.int q)]) (Nat.le_of_ble_eq_true rfl) rfl ?_
      refine ex_iload_n dX8_order_0 rfl rfl ?_
      refine ex_if_lt (q := 18) (q2 := 4) dX8_order_1 rfl rfl (fun h1 => ?_) (fun h1 => ?_)
      · refine ex_bipush (x := (-2)) dX8_order_18 rfl rfl ?_
        exact ex_iret dX8_order_20 rfl rfl rfl
      · refine ex_iload_n dX8_order_4 rfl rfl ?_
        refine ex_iconst (x := 1) dX8_order_5 rfl rfl ?_
        refine ex_icmp_gt (q := 18) (q2 := 9) dX8_order_6 rfl rfl (fun h6 => ?_) (fun h6 => ?_)
        · refine ex_bipush (x := (-2)) dX8_order_18 rfl rfl ?_
          exact ex_iret dX8_order_20 rfl rfl rfl
        · refine ex_iload_n dX8_order_9 rfl rfl ?_
          refine ex_if_lt (q := 18) (q2 := 13) dX8_order_10 rfl rfl (fun h10 => ?_) (fun h10 => ?_)
          · refine ex_bipush (x := (-2)) dX8_order_18 rfl rfl ?_
            exact ex_iret dX8_order_20 rfl rfl rfl
          · refine ex_iload_n dX8_order_13 rfl rfl ?_
            refine ex_iconst (x := 1) dX8_order_14 rfl rfl ?_
            refine ex_icmp_le (q := 21) (q2 := 18) dX8_order_15 rfl rfl (fun h15 => ?_) (fun h15 => ?_)
            · exact absurd ⟨decide_eq_true ⟨Int32.not_lt.mp h1, Int32.not_lt.mp h6⟩, decide_eq_true ⟨Int32.not_lt.mp h10, h15⟩⟩ c1
            · refine ex_bipush (x := (-2)) dX8_order_18 rfl rfl ?_
              exact ex_iret dX8_order_20 rfl rfl rfl
    · have h : MR σ T := hM.1
      refine Ok.of (ls := [some (.ref 55), some (.int so), some (.int q), none, none, none, none, none]) (Nat.le_of_ble_eq_true rfl) rfl ?_
      refine ex_iload_n dX9_order_0 rfl rfl ?_
      refine ex_iconst (x := 0) dX9_order_1 rfl rfl ?_
      refine ex_iconst (x := 1) dX9_order_2 rfl rfl ?_
      refine ex_callS (rest := []) dX9_order_3 rfl qp_8_81 rfl rfl rfl (Nat.le_of_ble_eq_true rfl) (k_in _ _ _ _) (Nat.le_of_ble_eq_true rfl) ?_
      show Ex qm_lay _ mX9_order 6 [some (.ref 55), some (.int so), some (.int q), none, none, none, none, none] [.int (b2i (tn_in so 0 1))] σ _ _
      refine ex_if_eq (q := 18) (q2 := 9) dX9_order_6 rfl rfl (fun h6 => ?_) (fun h6 => ?_)
      · have hb6 : (tn_in so 0 1) = false := b2i_0.mp h6
        refine ex_bipush (x := (-2)) dX9_order_18 rfl rfl ?_
        exact ex_iret dX9_order_20 rfl rfl rfl
      · have hb6 : (tn_in so 0 1) = true := b2i_n0.mp h6
        refine ex_iload_n dX9_order_9 rfl rfl ?_
        refine ex_iconst (x := 0) dX9_order_10 rfl rfl ?_
        refine ex_iconst (x := 1) dX9_order_11 rfl rfl ?_
        refine ex_callS (rest := []) dX9_order_12 rfl qp_8_81 rfl rfl rfl (Nat.le_of_ble_eq_true rfl) (k_in _ _ _ _) (Nat.le_of_ble_eq_true rfl) ?_
        show Ex qm_lay _ mX9_order 15 [some (.ref 55), some (.int so), some (.int q), none, none, none, none, none] [.int (b2i (tn_in q 0 1))] σ _ _
        refine ex_if_ne (q := 21) (q2 := 18) dX9_order_15 rfl rfl (fun h15 => ?_) (fun h15 => ?_)
        · have hb15 : (tn_in q 0 1) = true := b2i_n0.mp h15
          exact absurd ⟨hb6, hb15⟩ c1
        · have hb15 : (tn_in q 0 1) = false := b2i_0.mp (Decidable.not_not.mp h15)
          refine ex_bipush (x := (-2)) dX9_order_18 rfl rfl ?_
          exact ex_iret dX9_order_20 rfl rfl rfl

