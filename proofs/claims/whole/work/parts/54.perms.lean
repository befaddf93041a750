/-! ===== all orders of some lots, one behind the other ===== -/
def sw (os : List Nat) (a b : Nat) : List Nat := (os.set a (os.getD b 0)).set b (os.getD a 0)
theorem sw_len (os : List Nat) (a b : Nat) : (sw os a b).length = os.length := by rw [sw, List.length_set, List.length_set]
theorem sw_at {os : List Nat} {a b i : Nat} (ha : a < os.length) (hb : b < os.length) : (sw os a b).getD i 0 = if b = i then os.getD a 0 else if a = i then os.getD b 0 else os.getD i 0 := by
  unfold sw
  simp only [List.getD_eq_getElem?_getD, List.getElem?_set, List.length_set]
  rw [if_pos ha, if_pos hb]
  split
  · rfl
  · split
    · rfl
    · rfl
theorem sw_mem {os : List Nat} {a b n : Nat} (ha : a < os.length) (hb : b < os.length) (h : ∀ l ∈ os, l < n) : ∀ l ∈ sw os a b, l < n := by
  intro l hl
  rcases List.mem_or_eq_of_mem_set hl with h1 | h1
  · rcases List.mem_or_eq_of_mem_set h1 with h2 | h2
    · exact h l h2
    · rw [h2]; exact h _ (getD_mem hb)
  · rw [h1]; exact h _ (getD_mem ha)
theorem RR.sw {σ : qm_St} {os : List Nat} (h : RR σ os) {a b : Nat} (ha : a < os.length) (hb : b < os.length) : RR (qm_wF (qm_wF σ 60 a (nI (os.getD b 0))) 60 b (nI (os.getD a 0))) (sw os a b) := by
  refine ⟨by rw [sw_len]; exact h.1, by rw [sw_len]; exact h.2.1, fun i hi => ?_⟩
  rw [sw_len] at hi
  rw [sw_at ha hb]
  by_cases e : b = i
  · subst e; rw [rF_eq, if_pos rfl]
  · rw [if_neg e, rF_ne (Or.inr (fun z => e z.symm))]
    by_cases e2 : a = i
    · subst e2; rw [rF_eq, if_pos rfl]
    · rw [if_neg e2, rF_ne (Or.inr (fun z => e2 z.symm))]
      exact h.2.2 i hi
/-- the last place, ahead of j, where it goes up -/
def nk (os : List Nat) : Nat → Option Nat
  | 0 => none
  | j + 1 => if os.getD (j + 1) 0 < os.getD j 0 then nk os j else some j
def ns (os : List Nat) (x : Nat) : Nat → Nat
  | 0 => 0
  | j + 1 => if os.getD (j + 1) 0 < x then ns os x j else j + 1
def rv : Nat → Nat → Nat → List Nat → List Nat
  | 0, _, _, os => os
  | f + 1, lo, hi, os => if lo < hi then rv f (lo + 1) (hi - 1) (sw os lo hi) else os
def nx (os : List Nat) : Option (List Nat) := (nk os (os.length - 1)).map fun k => rv 7 (k + 1) (os.length - 1) (sw os k (ns os (os.getD k 0) (os.length - 1)))
def pm : Nat → List Nat → List (List Nat)
  | 0, _ => [[]]
  | n + 1, os => match os with
    | [] => [[]]
    | _ => os.flatMap fun a => (pm n (os.filter fun b => decide (b ≠ a))).map fun q => a :: q
def ch : List (List Nat) → Bool
  | [] => true
  | a :: t => match t with
    | [] => decide (nx a = none)
    | b :: _ => decide (nx a = some b) && ch t
def bl (L b : Nat) : List Nat := (List.range L).filter fun l => b.testBit l
theorem nk_lt (os : List Nat) : ∀ j k, nk os j = some k → k < j
  | 0, _, h => by cases h
  | j + 1, k, h => by
    rw [nk] at h
    split at h
    · exact Nat.lt_succ_of_lt (nk_lt os j k h)
    · rw [← Option.some.inj h]; exact Nat.lt_succ_self j
theorem nk_cons (a : Nat) (q : List Nat) : ∀ j k, nk q j = some k → nk (a :: q) (j + 1) = some (k + 1)
  | 0, _, h => by cases h
  | j + 1, k, h => by
    rw [nk] at h
    rw [nk]
    show (if q.getD (j + 1) 0 < q.getD j 0 then _ else _) = _
    split at h
    · rename_i c
      rw [if_pos c]
      exact nk_cons a q j k h
    · rename_i c
      rw [if_neg c, ← Option.some.inj h]
theorem ns_cons (a : Nat) (q : List Nat) (x : Nat) : ∀ j, (∃ i, i ≤ j ∧ ¬ q.getD i 0 < x) → ns (a :: q) x (j + 1) = ns q x j + 1
  | 0, ⟨i, hi, h⟩ => by
    have e : i = 0 := by omega
    subst e
    show (if q.getD 0 0 < x then _ else 0 + 1) = _
    rw [if_neg h]
    rfl
  | j + 1, ⟨i, hi, h⟩ => by
    show (if q.getD (j + 1) 0 < x then ns (a :: q) x (j + 1) else j + 1 + 1) = (if q.getD (j + 1) 0 < x then ns q x j else j + 1) + 1
    by_cases c : q.getD (j + 1) 0 < x
    · rw [if_pos c, if_pos c]
      refine ns_cons a q x j ⟨i, ?_, h⟩
      have : i ≠ j + 1 := fun z => h (by rw [z]; exact c)
      omega
    · rw [if_neg c, if_neg c]
theorem sw_cons (a : Nat) (q : List Nat) (k o : Nat) : sw (a :: q) (k + 1) (o + 1) = a :: sw q k o := rfl
theorem rv_cons (a : Nat) : ∀ (f lo hi : Nat) (q : List Nat), rv f (lo + 1) (hi + 1) (a :: q) = a :: rv f lo hi q
  | 0, _, _, _ => rfl
  | f + 1, lo, hi, q => by
    rw [rv, rv]
    by_cases c : lo < hi
    · rw [if_pos c, if_pos (by omega), sw_cons]
      obtain ⟨h, rfl⟩ : ∃ h, hi = h + 1 := ⟨hi - 1, by omega⟩
      exact rv_cons a f (lo + 1) h _
    · rw [if_neg c, if_neg (by omega)]
theorem nx_cons {a : Nat} {q r : List Nat} (h : nx q = some r) : nx (a :: q) = some (a :: r) := by
  unfold nx at h ⊢
  cases hk : nk q (q.length - 1) with
  | none => rw [hk] at h; cases h
  | some k =>
    rw [hk] at h
    have h2 := Option.some.inj h
    have hlt := nk_lt _ _ _ hk
    have hl : (a :: q).length - 1 = (q.length - 1) + 1 := by rw [List.length_cons]; omega
    rw [hl, nk_cons a q _ k hk]
    show some (rv 7 (k + 1 + 1) (q.length - 1 + 1) (sw (a :: q) (k + 1) (ns (a :: q) (q.getD k 0) (q.length - 1 + 1)))) = _
    rw [ns_cons a q _ _ ⟨k, by omega, Nat.lt_irrefl _⟩, sw_cons, rv_cons, ← h2]
/-- one behind the other, from one to the last -/
def cy : List Nat → List (List Nat) → List Nat → Prop
  | x, [], y => x = y
  | x, b :: t, y => nx x = some b ∧ cy b t y
theorem cy_map (a : Nat) : ∀ (t : List (List Nat)) (x y : List Nat), cy x t y → cy (a :: x) (t.map fun q => a :: q) (a :: y)
  | [], x, y, h => by show a :: x = a :: y; rw [show x = y from h]
  | b :: t, x, y, h => ⟨nx_cons h.1, cy_map a t b y h.2⟩
theorem cy_app {y x2 y2 : List Nat} {t2 : List (List Nat)} (hn : nx y = some x2) (h2 : cy x2 t2 y2) : ∀ (t : List (List Nat)) (x : List Nat), cy x t y → cy x (t ++ x2 :: t2) y2
  | [], x, h => ⟨by rw [show x = y from h]; exact hn, h2⟩
  | b :: t, x, h => ⟨h.1, cy_app hn h2 t b h.2⟩
theorem cy_ch {y : List Nat} (hn : nx y = none) : ∀ (t : List (List Nat)) (x : List Nat), cy x t y → ch (x :: t) = true
  | [], x, h => by
    show decide (nx x = none) = true
    rw [show x = y from h]
    exact decide_eq_true hn
  | b :: t, x, h => by
    show (decide (nx x = some b) && ch (b :: t)) = true
    rw [decide_eq_true h.1, cy_ch hn t b h.2]
    rfl
def la : Nat → List Nat → Nat
  | a, [] => a
  | _, b :: t => la b t
def cq (b : Nat) : List Nat → Bool
  | [] => true
  | a :: t => match t with
    | [] => true
    | c :: _ => decide (nx (a :: (bl 7 (tn_cl b a)).reverse) = some (c :: bl 7 (tn_cl b c))) && cq b t
def cqq (b : Nat) : Bool := match bl 7 b with
  | [] => true
  | a :: s => decide (a :: bl 7 (tn_cl b a) = bl 7 b) && decide (la a s :: (bl 7 (tn_cl b (la a s))).reverse = (bl 7 b).reverse)
set_option maxRecDepth 1000000 in
theorem cq_dec : ∀ b, b < 128 → (cq b (bl 7 b) && cqq b && decide (nx (bl 7 b).reverse = none)) = true := by decide +kernel
set_option maxRecDepth 1000000 in
theorem bl_cl : ∀ b, b < 128 → ∀ a, a < 7 → b.testBit a = true → bl 7 (tn_cl b a) = (bl 7 b).filter (fun c => decide (c ≠ a)) ∧ (bl 7 (tn_cl b a)).length + 1 = (bl 7 b).length := by decide +kernel
theorem bl_mem {L b x : Nat} (h : x ∈ bl L b) : x < L ∧ b.testBit x = true := by
  obtain ⟨h1, h2⟩ := List.mem_filter.mp h
  exact ⟨List.mem_range.mp h1, h2⟩
/-- the other rows behind, of the lots from a on -/
theorem pm_suf {n b : Nat} (hb : b < 128) (IH : ∀ c, c < 128 → (bl 7 c).length ≤ n → ∃ t, pm n (bl 7 c) = bl 7 c :: t ∧ cy (bl 7 c) t (bl 7 c).reverse) (hn : (bl 7 b).length ≤ n + 1) : ∀ (s : List Nat) (a : Nat), cq b (a :: s) = true → (∀ x ∈ a :: s, x < 7 ∧ b.testBit x = true) → ∃ t, ((a :: s).flatMap fun a => (pm n ((bl 7 b).filter fun c => decide (c ≠ a))).map fun q => a :: q) = (a :: bl 7 (tn_cl b a)) :: t ∧ cy (a :: bl 7 (tn_cl b a)) t (la a s :: (bl 7 (tn_cl b (la a s))).reverse) := by
  intro s
  induction s with
  | nil =>
    intro a _ hm
    obtain ⟨h1, h2⟩ := hm a List.mem_cons_self
    obtain ⟨e1, e2⟩ := bl_cl b hb a h1 h2
    obtain ⟨t, e3, h3⟩ := IH (tn_cl b a) (Nat.lt_of_le_of_lt (tn_cl_le b a) hb) (by omega)
    refine ⟨t.map fun q => a :: q, ?_, cy_map a t _ _ h3⟩
    rw [List.flatMap_cons, List.flatMap_nil, List.append_nil, ← e1, e3]
    rfl
  | cons c s ih =>
    intro a hq hm
    have hq2 : (decide (nx (a :: (bl 7 (tn_cl b a)).reverse) = some (c :: bl 7 (tn_cl b c))) && cq b (c :: s)) = true := hq
    rw [Bool.and_eq_true] at hq2
    obtain ⟨h1, h2⟩ := hm a List.mem_cons_self
    obtain ⟨e1, e2⟩ := bl_cl b hb a h1 h2
    obtain ⟨t, e3, h3⟩ := IH (tn_cl b a) (Nat.lt_of_le_of_lt (tn_cl_le b a) hb) (by omega)
    obtain ⟨t2, e4, h4⟩ := ih c hq2.2 (fun x hx => hm x (List.mem_cons_of_mem _ hx))
    refine ⟨(t.map fun q => a :: q) ++ (c :: bl 7 (tn_cl b c)) :: t2, ?_, cy_app (of_decide_eq_true hq2.1) h4 _ _ (cy_map a t _ _ h3)⟩
    rw [List.flatMap_cons, e4, ← e1, e3]
    rfl
theorem pm_cy : ∀ (n b : Nat), b < 128 → (bl 7 b).length ≤ n → ∃ t, pm n (bl 7 b) = bl 7 b :: t ∧ cy (bl 7 b) t (bl 7 b).reverse := by
  intro n
  induction n with
  | zero =>
    intro b hb hn
    have h0 : bl 7 b = [] := List.eq_nil_of_length_eq_zero (by omega)
    rw [h0]
    exact ⟨[], rfl, rfl⟩
  | succ n ih =>
    intro b hb hn
    have hd := cq_dec b hb
    rw [Bool.and_eq_true, Bool.and_eq_true] at hd
    obtain ⟨⟨hd1, hd2⟩, _⟩ := hd
    unfold cqq at hd2
    cases e : bl 7 b with
    | nil => exact ⟨[], rfl, rfl⟩
    | cons a s =>
      rw [e] at hd1 hd2
      have hd3 : (decide (a :: bl 7 (tn_cl b a) = a :: s) && decide (la a s :: (bl 7 (tn_cl b (la a s))).reverse = (a :: s).reverse)) = true := hd2
      rw [Bool.and_eq_true] at hd3
      obtain ⟨t, e2, h2⟩ := pm_suf hb ih hn s a hd1 (fun x hx => bl_mem (by rw [e]; exact hx))
      rw [e] at e2
      rw [of_decide_eq_true hd3.1] at e2 h2
      rw [of_decide_eq_true hd3.2] at h2
      exact ⟨t, e2, h2⟩
theorem pm_el : ∀ (n b : Nat), b < 128 → (bl 7 b).length ≤ n → ∀ os ∈ pm n (bl 7 b), os.length = (bl 7 b).length ∧ ∀ x ∈ os, x < 7 ∧ b.testBit x = true := by
  intro n
  induction n with
  | zero =>
    intro b hb hn os ho
    have h0 : bl 7 b = [] := List.eq_nil_of_length_eq_zero (by omega)
    rw [h0] at ho ⊢
    rw [List.mem_singleton.mp ho]
    exact ⟨rfl, fun x hx => absurd hx List.not_mem_nil⟩
  | succ n ih =>
    intro b hb hn os ho
    cases e : bl 7 b with
    | nil =>
      rw [e] at ho
      rw [List.mem_singleton.mp ho]
      exact ⟨rfl, fun x hx => absurd hx List.not_mem_nil⟩
    | cons a s =>
      rw [e] at ho
      have ho2 : os ∈ (a :: s).flatMap fun a2 => (pm n ((a :: s).filter fun c => decide (c ≠ a2))).map fun q => a2 :: q := ho
      rw [← e] at ho2
      obtain ⟨x, hx, ho3⟩ := List.mem_flatMap.mp ho2
      obtain ⟨q, hq, rfl⟩ := List.mem_map.mp ho3
      obtain ⟨h1, h2⟩ := bl_mem hx
      obtain ⟨e1, e2⟩ := bl_cl b hb x h1 h2
      rw [← e1] at hq
      have hb2 : tn_cl b x < 128 := Nat.lt_of_le_of_lt (tn_cl_le b x) hb
      obtain ⟨g1, g2⟩ := ih (tn_cl b x) hb2 (by omega) q hq
      rw [← e]
      refine ⟨by rw [List.length_cons, g1]; exact e2, fun y hy => ?_⟩
      rcases List.mem_cons.mp hy with r | r
      · rw [r]; exact ⟨h1, h2⟩
      · obtain ⟨k1, k2⟩ := g2 y r
        rw [tn_cl_tb x h1 y k1 b hb, Bool.and_eq_true] at k2
        exact ⟨k1, k2.1⟩
theorem bl_len (b : Nat) : (bl 7 b).length ≤ 7 := by
  have h := List.length_filter_le (fun l => b.testBit l) (List.range 7)
  rw [List.length_range] at h
  exact h
theorem pm_good (b : Nat) (hb : b < 128) : ch (pm 7 (bl 7 b)) = true ∧ ∀ os ∈ pm 7 (bl 7 b), os.length = (bl 7 b).length ∧ ∀ x ∈ os, x < 7 ∧ b.testBit x = true := by
  obtain ⟨t, e, h⟩ := pm_cy 7 b hb (bl_len b)
  have hd := cq_dec b hb
  rw [Bool.and_eq_true] at hd
  refine ⟨?_, pm_el 7 b hb (bl_len b)⟩
  rw [e]
  exact cy_ch (of_decide_eq_true hd.2) t _ h
theorem pm_first (b : Nat) (hb : b < 128) : ∃ os ps, pm 7 (bl 7 b) = os :: ps ∧ os = bl 7 b := by
  obtain ⟨t, e, h⟩ := pm_cy 7 b hb (bl_len b)
  exact ⟨_, t, e, rfl⟩
set_option maxRecDepth 1000000 in
theorem bl_dec : ∀ L, L < 8 → ∀ b, b < 128 → b < 2 ^ L → bl L b = bl 7 b := by decide +kernel
theorem bl_7 {L b : Nat} (hL : L ≤ 7) (hb : b < 2 ^ L) : bl L b = bl 7 b := bl_dec L (by omega) b (Nat.lt_of_lt_of_le hb (Nat.pow_le_pow_right (n := 2) (by omega) hL)) hb

set_option maxHeartbeats 2000000 in
theorem k_swapsRow {σ : qm_St} {os : List Nat} (h : RR σ os) {a b : Nat} (ha : a < os.length) (hb : b < os.length) : ∃ σ', Ok qm_lay 0 mX9_swapsRow [.ref 55, .int (nI a), .int (nI b)] σ none σ' ∧ RR σ' (sw os a b) ∧ sm σ σ' 36 36 60 61 := by
  have h7 := h.2.1
  refine ⟨(qm_wF (qm_wF σ 60 a (nI (os.getD b 0))) 60 b (nI (os.getD a 0))), ?_, h.sw ha hb, ((sm.rf σ 36 36 60 61).wF _ (by omega)).wF _ (by omega)⟩
  refine Ok.of (ls := [some (.ref 55), some (.int (nI a)), some (.int (nI b)), none]) (Nat.le_of_ble_eq_true rfl) rfl ?_
  refine ex_aload_n dX9_swapsRow_0 rfl rfl ?_
  refine ex_getR (b := 74) dX9_swapsRow_1 rfl qp_8_64 rfl rfl ?_
  refine ex_iload_n dX9_swapsRow_4 rfl rfl ?_
  refine ex_iaload (k := a) (x := nI (os.getD a 0)) dX9_swapsRow_5 rfl rfl (rfl) (by omega) (by decide) (h.2.2 a (by omega)) ?_
  refine ex_istore_n (ls' := [some (.ref 55), some (.int (nI a)), some (.int (nI b)), some (.int (nI (os.getD a 0)))]) dX9_swapsRow_6 rfl (Nat.le_of_ble_eq_true rfl) rfl rfl ?_
  refine ex_aload_n dX9_swapsRow_7 rfl rfl ?_
  refine ex_getR (b := 74) dX9_swapsRow_8 rfl qp_8_64 rfl rfl ?_
  refine ex_iload_n dX9_swapsRow_11 rfl rfl ?_
  refine ex_aload_n dX9_swapsRow_12 rfl rfl ?_
  refine ex_getR (b := 74) dX9_swapsRow_13 rfl qp_8_64 rfl rfl ?_
  refine ex_iload_n dX9_swapsRow_16 rfl rfl ?_
  refine ex_iaload (k := b) (x := nI (os.getD b 0)) dX9_swapsRow_17 rfl rfl (rfl) (by omega) (by decide) (h.2.2 b (by omega)) ?_
  refine ex_iastore (k := a) (σ' := qm_wF σ 60 a (nI (os.getD b 0))) dX9_swapsRow_18 rfl rfl (rfl) (by omega) (by decide) rfl ?_
  refine ex_aload_n dX9_swapsRow_19 rfl rfl ?_
  refine ex_getR (b := 74) dX9_swapsRow_20 rfl qp_8_64 rfl rfl ?_
  refine ex_iload_n dX9_swapsRow_23 rfl rfl ?_
  refine ex_iload_n dX9_swapsRow_24 rfl rfl ?_
  refine ex_iastore (k := b) (σ' := qm_wF (qm_wF σ 60 a (nI (os.getD b 0))) 60 b (nI (os.getD a 0))) dX9_swapsRow_25 rfl rfl (rfl) (by omega) (by decide) rfl ?_
  exact ex_vret dX9_swapsRow_26 rfl rfl rfl

set_option maxHeartbeats 2000000 in
theorem l_begins {L b : Nat} (hL : L ≤ 7) (hb : b < 128) : ∀ (r k : Nat) (acc : List Nat) (σ1 : qm_St), k + r = L → acc.length ≤ k → qm_rI σ1 27 = nI L → RR σ1 acc → ∃ σ', Ex qm_lay 0 mX9_begins 7 [some (.ref 55), some (.int (nI b)), some (.int (nI k))] [] σ1 none σ' ∧ RR σ' (acc ++ (List.range' k r).filter fun l => b.testBit l) ∧ sm σ1 σ' 44 45 60 61 := by
  intro r
  induction r with
  | zero =>
    intro k acc σ1 hk ha h27 h
    refine ⟨σ1, ?_, by rw [List.range'_zero, List.filter_nil, List.append_nil]; exact h, sm.rf _ _ _ _ _⟩
    refine ex_iload_n dX9_begins_7 rfl rfl ?_
    refine ex_aload_n dX9_begins_8 rfl rfl ?_
    refine ex_getI (s := 27) (x := nI L) dX9_begins_9 rfl qp_8_78 rfl rfl (h27) ?_
    refine ex_icmp_ge (q := 50) (q2 := 15) dX9_begins_12 rfl rfl (fun _ => ?_) (fun hh => absurd (nI_le (a := L) (b := k) (by omega) (by omega)) hh)
    exact ex_vret dX9_begins_50 rfl rfl rfl
  | succ r ih =>
    intro k acc σ1 hk ha h27 h
    rw [List.range'_succ, List.filter_cons]
    by_cases c1 : b.testBit k = true
    · rw [if_pos c1, List.append_cons]
      have hg : sm σ1 (qm_wI (qm_wF σ1 60 acc.length (nI k)) 44 (nI (acc.length + 1))) 44 45 60 61 := ((sm.rf σ1 44 45 60 61).wF _ (by omega)).wI _ (by omega)
      obtain ⟨σ', hE, hR, hs⟩ := ih (k + 1) (acc ++ [k]) _ (by omega) (by rw [List.length_append]; show acc.length + 1 ≤ k + 1; omega) (by rw [hg.1 _ (by omega)]; exact h27) (h.app (by omega) k)
      refine ⟨σ', ?_, hR, hg.tr hs⟩
      refine ex_iload_n dX9_begins_7 rfl rfl ?_
      refine ex_aload_n dX9_begins_8 rfl rfl ?_
      refine ex_getI (s := 27) (x := nI L) dX9_begins_9 rfl qp_8_78 rfl rfl (h27) ?_
      refine ex_icmp_ge (q := 50) (q2 := 15) dX9_begins_12 rfl rfl (fun hh => absurd hh (nI_ge (a := k) (b := L) (by omega) (by omega))) (fun _ => ?_)
      refine ex_iload_n dX9_begins_15 rfl rfl ?_
      refine ex_iload_n dX9_begins_16 rfl rfl ?_
      refine ex_ishr (z := (nI b) >>> ((nI k) &&& 31)) dX9_begins_17 rfl (rfl) ?_
      refine ex_iconst (x := 1) dX9_begins_18 rfl rfl ?_
      refine ex_iand (z := b2i (Nat.testBit b k)) dX9_begins_19 rfl (nI_bit (by omega) (by omega)) ?_
      refine ex_iconst (x := 1) dX9_begins_20 rfl rfl ?_
      refine ex_icmp_ne (q := 44) (q2 := 24) dX9_begins_21 rfl rfl (fun hh => absurd hh (fun zz => zz (by rw [c1]; rfl))) (fun _ => ?_)
      refine ex_aload_n dX9_begins_24 rfl rfl ?_
      refine ex_getR (b := 74) dX9_begins_25 rfl qp_8_64 rfl rfl ?_
      refine ex_aload_n dX9_begins_28 rfl rfl ?_
      refine ex_getI (s := 44) (x := nI acc.length) dX9_begins_29 rfl qp_8_235 rfl rfl (h.1) ?_
      refine ex_iload_n dX9_begins_32 rfl rfl ?_
      refine ex_iastore (k := acc.length) (σ' := qm_wF σ1 60 acc.length (nI k)) dX9_begins_33 rfl rfl (rfl) (by omega) (by decide) rfl ?_
      refine ex_aload_n dX9_begins_34 rfl rfl ?_
      refine ex_dup dX9_begins_35 rfl rfl ?_
      refine ex_getI (s := 44) (x := nI acc.length) dX9_begins_36 rfl qp_8_235 rfl rfl (h.1) ?_
      refine ex_iconst (x := 1) dX9_begins_39 rfl rfl ?_
      refine ex_iadd (z := nI (acc.length + 1)) dX9_begins_40 rfl (nI_add acc.length 1) ?_
      refine ex_put (σ' := qm_wI (qm_wF σ1 60 acc.length (nI k)) 44 (nI (acc.length + 1))) dX9_begins_41 rfl qp_8_235 rfl rfl (Or.inl rfl) rfl ?_
      refine ex_iinc (y := nI (k + 1)) (ls' := [some (.ref 55), some (.int (nI b)), some (.int (nI (k + 1)))]) dX9_begins_44 rfl rfl rfl (nI_add k 1) rfl ?_
      refine ex_goto (q := 7) dX9_begins_47 rfl ?_
      exact hE
    · rw [if_neg c1]
      obtain ⟨σ', hE, hR, hs⟩ := ih (k + 1) acc σ1 (by omega) (by omega) h27 h
      refine ⟨σ', ?_, hR, hs⟩
      refine ex_iload_n dX9_begins_7 rfl rfl ?_
      refine ex_aload_n dX9_begins_8 rfl rfl ?_
      refine ex_getI (s := 27) (x := nI L) dX9_begins_9 rfl qp_8_78 rfl rfl (h27) ?_
      refine ex_icmp_ge (q := 50) (q2 := 15) dX9_begins_12 rfl rfl (fun hh => absurd hh (nI_ge (a := k) (b := L) (by omega) (by omega))) (fun _ => ?_)
      refine ex_iload_n dX9_begins_15 rfl rfl ?_
      refine ex_iload_n dX9_begins_16 rfl rfl ?_
      refine ex_ishr (z := (nI b) >>> ((nI k) &&& 31)) dX9_begins_17 rfl (rfl) ?_
      refine ex_iconst (x := 1) dX9_begins_18 rfl rfl ?_
      refine ex_iand (z := b2i (Nat.testBit b k)) dX9_begins_19 rfl (nI_bit (by omega) (by omega)) ?_
      refine ex_iconst (x := 1) dX9_begins_20 rfl rfl ?_
      refine ex_icmp_ne (q := 44) (q2 := 24) dX9_begins_21 rfl rfl (fun _ => ?_) (fun hh => absurd (fun zz => c1 (b2i_1.mp zz)) hh)
      refine ex_iinc (y := nI (k + 1)) (ls' := [some (.ref 55), some (.int (nI b)), some (.int (nI (k + 1)))]) dX9_begins_44 rfl rfl rfl (nI_add k 1) rfl ?_
      refine ex_goto (q := 7) dX9_begins_47 rfl ?_
      exact hE

set_option maxHeartbeats 2000000 in
theorem k_begins {σ : qm_St} {T : tn_T} (hT : tn_ok T) (h : MR σ T) {b : Nat} (hb : b < 128) : ∃ σ', Ok qm_lay 0 mX9_begins [.ref 55, .int (nI b)] σ none σ' ∧ RR σ' (bl (tn_L T) b) ∧ sm σ σ' 44 45 60 61 := by
  have hg : sm σ (qm_wI σ 44 0) 44 45 60 61 := (sm.rf σ 44 45 60 61).wI _ (by omega)
  obtain ⟨σ', hE, hR, hs⟩ := l_begins hT.1 hb (tn_L T) 0 [] (qm_wI σ 44 0) (by omega) (Nat.le_refl 0) (by rw [hg.1 _ (by omega)]; exact h.1.1) (RR.nil (σ := σ))
  rw [List.nil_append, ← List.range_eq_range'] at hR
  refine ⟨σ', ?_, hR, hg.tr hs⟩
  refine Ok.of (ls := [some (.ref 55), some (.int (nI b)), none]) (Nat.le_of_ble_eq_true rfl) rfl ?_
  refine ex_aload_n dX9_begins_0 rfl rfl ?_
  refine ex_iconst (x := 0) dX9_begins_1 rfl rfl ?_
  refine ex_put (σ' := qm_wI σ 44 0) dX9_begins_2 rfl qp_8_235 rfl rfl (Or.inl rfl) rfl ?_
  refine ex_iconst (x := 0) dX9_begins_5 rfl rfl ?_
  refine ex_istore_n (ls' := [some (.ref 55), some (.int (nI b)), some (.int 0)]) dX9_begins_6 rfl (Nat.le_of_ble_eq_true rfl) rfl rfl ?_
  exact hE

def dg (os : List Nat) : Nat := os.foldl (fun d l => 10 * d + l + 1) 0
theorem dg_take {os : List Nat} {k : Nat} (hk : k < os.length) : dg (os.take (k + 1)) = 10 * dg (os.take k) + os.getD k 0 + 1 := by
  rw [List.take_succ_eq_append_getElem hk, dg, List.foldl_append]
  simp [dg, hk]
set_option maxHeartbeats 2000000 in
theorem l_rowDigits {σ : qm_St} {os : List Nat} (h : RR σ os) : ∀ (n k : Nat), k + n = os.length → Ex qm_lay 0 mX9_rowDigits 4 [some (.ref 55), some (.int (nI (dg (os.take k)))), some (.int (nI k))] [] σ (some (.int (nI (dg os)))) σ := by
  have h7 := h.2.1
  intro n
  induction n with
  | zero =>
    intro k hk
    refine ex_iload_n dX9_rowDigits_4 rfl rfl ?_
    refine ex_aload_n dX9_rowDigits_5 rfl rfl ?_
    refine ex_getI (s := 44) (x := nI os.length) dX9_rowDigits_6 rfl qp_8_235 rfl rfl (h.1) ?_
    refine ex_icmp_ge (q := 32) (q2 := 12) dX9_rowDigits_9 rfl rfl (fun _ => ?_) (fun hh => absurd (nI_le (a := os.length) (b := k) (by omega) (by omega)) hh)
    refine ex_iload_n dX9_rowDigits_32 rfl rfl ?_
    exact ex_iret dX9_rowDigits_33 rfl (by rw [List.take_of_length_le (by omega)]) rfl
  | succ n ih =>
    intro k hk
    refine ex_iload_n dX9_rowDigits_4 rfl rfl ?_
    refine ex_aload_n dX9_rowDigits_5 rfl rfl ?_
    refine ex_getI (s := 44) (x := nI os.length) dX9_rowDigits_6 rfl qp_8_235 rfl rfl (h.1) ?_
    refine ex_icmp_ge (q := 32) (q2 := 12) dX9_rowDigits_9 rfl rfl (fun hh => absurd hh (nI_ge (a := k) (b := os.length) (by omega) (by omega))) (fun _ => ?_)
    refine ex_bipush (x := 10) dX9_rowDigits_12 rfl rfl ?_
    refine ex_iload_n dX9_rowDigits_14 rfl rfl ?_
    refine ex_imul (z := nI (10 * (dg (os.take k)))) dX9_rowDigits_15 rfl (pk_mul 10 (dg (os.take k))) ?_
    refine ex_aload_n dX9_rowDigits_16 rfl rfl ?_
    refine ex_getR (b := 74) dX9_rowDigits_17 rfl qp_8_64 rfl rfl ?_
    refine ex_iload_n dX9_rowDigits_20 rfl rfl ?_
    refine ex_iaload (k := k) (x := nI (os.getD k 0)) dX9_rowDigits_21 rfl rfl (rfl) (by omega) (by decide) (h.2.2 k (by omega)) ?_
    refine ex_iadd (z := nI ((10 * (dg (os.take k))) + (os.getD k 0))) dX9_rowDigits_22 rfl (nI_add (10 * (dg (os.take k))) (os.getD k 0)) ?_
    refine ex_iconst (x := 1) dX9_rowDigits_23 rfl rfl ?_
    refine ex_iadd (z := nI (dg (os.take (k + 1)))) dX9_rowDigits_24 rfl ((by rw [dg_take (by omega)]; exact nI_add _ 1)) ?_
    refine ex_istore_n (ls' := [some (.ref 55), some (.int (nI (dg (os.take (k + 1))))), some (.int (nI k))]) dX9_rowDigits_25 rfl (Nat.le_of_ble_eq_true rfl) rfl rfl ?_
    refine ex_iinc (y := nI (k + 1)) (ls' := [some (.ref 55), some (.int (nI (dg (os.take (k + 1))))), some (.int (nI (k + 1)))]) dX9_rowDigits_26 rfl rfl rfl (nI_add k 1) rfl ?_
    refine ex_goto (q := 4) dX9_rowDigits_29 rfl ?_
    exact ih (k + 1) (by omega)

theorem k_rowDigits {σ : qm_St} {os : List Nat} (h : RR σ os) : Ok qm_lay 0 mX9_rowDigits [.ref 55] σ (some (.int (nI (dg os)))) σ := by
  refine Ok.of (ls := [some (.ref 55), none, none]) (Nat.le_of_ble_eq_true rfl) rfl ?_
  refine ex_iconst (x := 0) dX9_rowDigits_0 rfl rfl ?_
  refine ex_istore_n (ls' := [some (.ref 55), some (.int 0), none]) dX9_rowDigits_1 rfl (Nat.le_of_ble_eq_true rfl) rfl rfl ?_
  refine ex_iconst (x := 0) dX9_rowDigits_2 rfl rfl ?_
  refine ex_istore_n (ls' := [some (.ref 55), some (.int 0), some (.int 0)]) dX9_rowDigits_3 rfl (Nat.le_of_ble_eq_true rfl) rfl rfl ?_
  exact l_rowDigits h os.length 0 (by omega)

set_option maxHeartbeats 2000000 in
theorem l_next3 (x y : Option Value) (hx : qm_free [none, x, y] 3 = true) : ∀ (f lo hi : Nat) (os : List Nat) (σ : qm_St), RR σ os → hi < os.length → hi < lo + f + 1 → lo ≤ 7 → ∃ σ', Ex qm_lay 2 mX9_nextRow 86 [some (.ref 55), x, y, some (.int (nI hi)), some (.int (nI lo))] [] σ (some (.int 1)) σ' ∧ RR σ' (rv f lo hi os) ∧ sm σ σ' 36 36 60 61 := by
  intro f
  induction f with
  | zero =>
    intro lo hi os σ h hh hm hlo
    have h7 := h.2.1
    refine ⟨σ, ?_, h, sm.rf _ _ _ _ _⟩
    refine ex_iload dX9_nextRow_86 rfl rfl ?_
    refine ex_iload_n dX9_nextRow_88 rfl rfl ?_
    refine ex_icmp_ge (q := 108) (q2 := 92) dX9_nextRow_89 rfl rfl (fun _ => ?_) (fun hh => absurd (nI_le (a := hi) (b := lo) (by omega) (by omega)) hh)
    refine ex_iconst (x := 1) dX9_nextRow_108 rfl rfl ?_
    exact ex_zret dX9_nextRow_109 rfl (by decide) rfl rfl
  | succ f ih =>
    intro lo hi os σ h hh hm hlo
    have h7 := h.2.1
    by_cases c1 : lo < hi
    · obtain ⟨hj, rfl⟩ : ∃ hj, hi = hj + 1 := ⟨hi - 1, by omega⟩
      rw [show rv (f + 1) lo (hj + 1) os = rv f (lo + 1) hj (sw os lo (hj + 1)) by rw [rv, if_pos c1]; rfl]
      obtain ⟨σ1, hO, hR1, hs1⟩ := k_swapsRow h (show lo < os.length by omega) hh
      obtain ⟨σ', hE, hR, hs⟩ := ih (lo + 1) hj (sw os lo (hj + 1)) σ1 hR1 (by rw [sw_len]; omega) (by omega) (by omega)
      refine ⟨σ', ?_, hR, hs1.tr hs⟩
      refine ex_iload dX9_nextRow_86 rfl rfl ?_
      refine ex_iload_n dX9_nextRow_88 rfl rfl ?_
      refine ex_icmp_ge (q := 108) (q2 := 92) dX9_nextRow_89 rfl rfl (fun hh => absurd hh (nI_ge (a := lo) (b := (hj + 1)) (by omega) (by omega))) (fun _ => ?_)
      refine ex_aload_n dX9_nextRow_92 rfl rfl ?_
      refine ex_iload dX9_nextRow_93 rfl rfl ?_
      refine ex_iload_n dX9_nextRow_95 rfl rfl ?_
      refine ex_callV (a := 55) (rest := []) dX9_nextRow_96 rfl qp_8_238 rfl rfl rfl rfl rfl (Nat.le_of_ble_eq_true rfl) (hO) (Nat.le_of_ble_eq_true rfl) ?_
      show Ex qm_lay _ mX9_nextRow 99 [some (.ref 55), x, y, some (.int (nI (hj + 1))), some (.int (nI lo))] [] σ1 _ _
      refine ex_iinc (y := nI hj) (ls' := [some (.ref 55), x, y, some (.int (nI hj)), some (.int (nI lo))]) dX9_nextRow_99 rfl rfl hx (pk_m1 hj) rfl ?_
      refine ex_iinc (y := nI (lo + 1)) (ls' := [some (.ref 55), x, y, some (.int (nI hj)), some (.int (nI (lo + 1)))]) dX9_nextRow_102 rfl rfl rfl (nI_add lo 1) rfl ?_
      refine ex_goto (q := 86) dX9_nextRow_105 rfl ?_
      exact hE
    · rw [show rv (f + 1) lo hi os = os by rw [rv, if_neg c1]]
      refine ⟨σ, ?_, h, sm.rf _ _ _ _ _⟩
      refine ex_iload dX9_nextRow_86 rfl rfl ?_
      refine ex_iload_n dX9_nextRow_88 rfl rfl ?_
      refine ex_icmp_ge (q := 108) (q2 := 92) dX9_nextRow_89 rfl rfl (fun _ => ?_) (fun hh => absurd (nI_le (a := hi) (b := lo) (by omega) (by omega)) hh)
      refine ex_iconst (x := 1) dX9_nextRow_108 rfl rfl ?_
      exact ex_zret dX9_nextRow_109 rfl (by decide) rfl rfl

set_option maxHeartbeats 2000000 in
theorem l_next2 {σ : qm_St} {os : List Nat} (h : RR σ os) (hos : ∀ l ∈ os, l < 7) {k : Nat} (hk : k < os.length) : ∀ (j : Nat) (x y : Option Value), k ≤ j → j < os.length → ∃ σ', Ex qm_lay 2 mX9_nextRow 47 [some (.ref 55), some (.int (nI k)), some (.int (nI j)), x, y] [] σ (some (.int 1)) σ' ∧ RR σ' (rv 7 (k + 1) (os.length - 1) (sw os k (ns os (os.getD k 0) j))) ∧ sm σ σ' 36 36 60 61 := by
  have h7 := h.2.1
  have hg : ∀ i, i < os.length → os.getD i 0 < 7 := fun i hi => hos _ (getD_mem hi)
  have hgk := hg k hk
  have fin : ∀ (o : Nat) (x y : Option Value), o < os.length → ∃ σ', Ex qm_lay 2 mX9_nextRow 68 [some (.ref 55), some (.int (nI k)), some (.int (nI o)), x, y] [] σ (some (.int 1)) σ' ∧ RR σ' (rv 7 (k + 1) (os.length - 1) (sw os k o)) ∧ sm σ σ' 36 36 60 61 := by
    intro o x y ho
    obtain ⟨n1, hn1⟩ : ∃ n1, os.length = n1 + 1 := ⟨os.length - 1, by omega⟩
    obtain ⟨σ1, hO, hR1, hs1⟩ := k_swapsRow h hk ho
    obtain ⟨σ', hE, hR, hs⟩ := l_next3 (some (.int (nI k))) (some (.int (nI o))) rfl 7 (k + 1) (os.length - 1) (sw os k o) σ1 hR1 (by rw [sw_len]; omega) (by omega) (by omega)
    refine ⟨σ', ?_, hR, hs1.tr hs⟩
    refine ex_aload_n dX9_nextRow_68 rfl rfl ?_
    refine ex_iload_n dX9_nextRow_69 rfl rfl ?_
    refine ex_iload_n dX9_nextRow_70 rfl rfl ?_
    refine ex_callV (a := 55) (rest := []) dX9_nextRow_71 rfl qp_8_238 rfl rfl rfl rfl rfl (Nat.le_of_ble_eq_true rfl) (hO) (Nat.le_of_ble_eq_true rfl) ?_
    show Ex qm_lay _ mX9_nextRow 74 [some (.ref 55), some (.int (nI k)), some (.int (nI o)), x, y] [] σ1 _ _
    refine ex_aload_n dX9_nextRow_74 rfl rfl ?_
    refine ex_getI (s := 44) (x := nI os.length) dX9_nextRow_75 rfl qp_8_235 rfl rfl ((by rw [← sw_len os k o]; exact hR1.1)) ?_
    refine ex_iconst (x := 1) dX9_nextRow_78 rfl rfl ?_
    refine ex_isub (z := nI (os.length - 1)) dX9_nextRow_79 rfl (pk_sub (b := 1) (by omega)) ?_
    refine ex_istore_n (ls' := [some (.ref 55), some (.int (nI k)), some (.int (nI o)), some (.int (nI (os.length - 1))), y]) dX9_nextRow_80 rfl (Nat.le_of_ble_eq_true rfl) rfl rfl ?_
    refine ex_iload_n dX9_nextRow_81 rfl rfl ?_
    refine ex_iconst (x := 1) dX9_nextRow_82 rfl rfl ?_
    refine ex_iadd (z := nI (k + 1)) dX9_nextRow_83 rfl (nI_add k 1) ?_
    refine ex_istore (ls' := [some (.ref 55), some (.int (nI k)), some (.int (nI o)), some (.int (nI (os.length - 1))), some (.int (nI (k + 1)))]) dX9_nextRow_84 rfl (Nat.le_of_ble_eq_true rfl) rfl rfl ?_
    exact hE
  intro j
  induction j with
  | zero =>
    intro x y hkj hj
    have hk0 : k = 0 := by omega
    have hlt : ¬ os.getD 0 0 < os.getD k 0 := by rw [hk0]; exact Nat.lt_irrefl _
    obtain ⟨σ', hE, hR, hs⟩ := fin 0 x y hj
    refine ⟨σ', ?_, hR, hs⟩
    have hg0 := hg 0 hj
    refine ex_aload_n dX9_nextRow_47 rfl rfl ?_
    refine ex_getR (b := 74) dX9_nextRow_48 rfl qp_8_64 rfl rfl ?_
    refine ex_iload_n dX9_nextRow_51 rfl rfl ?_
    refine ex_iaload (k := 0) (x := nI (os.getD 0 0)) dX9_nextRow_52 rfl rfl (rfl) (by omega) (by decide) (h.2.2 0 (by omega)) ?_
    refine ex_aload_n dX9_nextRow_53 rfl rfl ?_
    refine ex_getR (b := 74) dX9_nextRow_54 rfl qp_8_64 rfl rfl ?_
    refine ex_iload_n dX9_nextRow_57 rfl rfl ?_
    refine ex_iaload (k := k) (x := nI (os.getD k 0)) dX9_nextRow_58 rfl rfl (rfl) (by omega) (by decide) (h.2.2 k (by omega)) ?_
    refine ex_icmp_ge (q := 68) (q2 := 62) dX9_nextRow_59 rfl rfl (fun _ => ?_) (fun hh => absurd (nI_le (a := (os.getD k 0)) (b := (os.getD 0 0)) (by omega) (by omega)) hh)
    exact hE
  | succ j ih =>
    intro x y hkj hj
    have hgj := hg (j + 1) hj
    by_cases c1 : os.getD (j + 1) 0 < os.getD k 0
    · have hkj2 : k ≤ j := by
        rcases Nat.lt_or_ge j k with q | q
        · have : k = j + 1 := by omega
          subst this; exact absurd c1 (Nat.lt_irrefl _)
        · exact q
      obtain ⟨σ', hE, hR, hs⟩ := ih x y hkj2 (by omega)
      rw [show ns os (os.getD k 0) (j + 1) = ns os (os.getD k 0) j by rw [ns, if_pos c1]]
      refine ⟨σ', ?_, hR, hs⟩
      refine ex_aload_n dX9_nextRow_47 rfl rfl ?_
      refine ex_getR (b := 74) dX9_nextRow_48 rfl qp_8_64 rfl rfl ?_
      refine ex_iload_n dX9_nextRow_51 rfl rfl ?_
      refine ex_iaload (k := j + 1) (x := nI (os.getD (j + 1) 0)) dX9_nextRow_52 rfl rfl (rfl) (by omega) (by decide) (h.2.2 (j + 1) (by omega)) ?_
      refine ex_aload_n dX9_nextRow_53 rfl rfl ?_
      refine ex_getR (b := 74) dX9_nextRow_54 rfl qp_8_64 rfl rfl ?_
      refine ex_iload_n dX9_nextRow_57 rfl rfl ?_
      refine ex_iaload (k := k) (x := nI (os.getD k 0)) dX9_nextRow_58 rfl rfl (rfl) (by omega) (by decide) (h.2.2 k (by omega)) ?_
      refine ex_icmp_ge (q := 68) (q2 := 62) dX9_nextRow_59 rfl rfl (fun hh => absurd hh (nI_ge (a := (os.getD (j + 1) 0)) (b := (os.getD k 0)) (by omega) (by omega))) (fun _ => ?_)
      refine ex_iinc (y := nI j) (ls' := [some (.ref 55), some (.int (nI k)), some (.int (nI j)), x, y]) dX9_nextRow_62 rfl rfl rfl (pk_m1 j) rfl ?_
      refine ex_goto (q := 47) dX9_nextRow_65 rfl ?_
      exact hE
    · rw [show ns os (os.getD k 0) (j + 1) = j + 1 by rw [ns, if_neg c1]]
      obtain ⟨σ', hE, hR, hs⟩ := fin (j + 1) x y hj
      refine ⟨σ', ?_, hR, hs⟩
      refine ex_aload_n dX9_nextRow_47 rfl rfl ?_
      refine ex_getR (b := 74) dX9_nextRow_48 rfl qp_8_64 rfl rfl ?_
      refine ex_iload_n dX9_nextRow_51 rfl rfl ?_
      refine ex_iaload (k := j + 1) (x := nI (os.getD (j + 1) 0)) dX9_nextRow_52 rfl rfl (rfl) (by omega) (by decide) (h.2.2 (j + 1) (by omega)) ?_
      refine ex_aload_n dX9_nextRow_53 rfl rfl ?_
      refine ex_getR (b := 74) dX9_nextRow_54 rfl qp_8_64 rfl rfl ?_
      refine ex_iload_n dX9_nextRow_57 rfl rfl ?_
      refine ex_iaload (k := k) (x := nI (os.getD k 0)) dX9_nextRow_58 rfl rfl (rfl) (by omega) (by decide) (h.2.2 k (by omega)) ?_
      refine ex_icmp_ge (q := 68) (q2 := 62) dX9_nextRow_59 rfl rfl (fun _ => ?_) (fun hh => absurd (nI_le (a := (os.getD k 0)) (b := (os.getD (j + 1) 0)) (by omega) (by omega)) hh)
      exact hE

set_option maxHeartbeats 2000000 in
theorem l_next1 {σ : qm_St} {os : List Nat} (h : RR σ os) (hos : ∀ l ∈ os, l < 7) : ∀ (j : Nat), j < os.length ∨ j = 0 → ∃ σ', Ex qm_lay 2 mX9_nextRow 7 [some (.ref 55), some (.int (nI j + (-1))), none, none, none] [] σ (some (.int (b2i ((nk os j).map fun k => rv 7 (k + 1) (os.length - 1) (sw os k (ns os (os.getD k 0) (os.length - 1)))).isSome))) σ' ∧ RR σ' (((nk os j).map fun k => rv 7 (k + 1) (os.length - 1) (sw os k (ns os (os.getD k 0) (os.length - 1)))).getD os) ∧ sm σ σ' 36 36 60 61 := by
  have h7 := h.2.1
  have hg : ∀ i, i < os.length → os.getD i 0 < 7 := fun i hi => hos _ (getD_mem hi)
  intro j
  induction j with
  | zero =>
    intro hj
    refine ⟨σ, ?_, h, sm.rf _ _ _ _ _⟩
    refine ex_iload_n dX9_nextRow_7 rfl rfl ?_
    refine ex_if_lt (q := 34) (q2 := 11) dX9_nextRow_8 rfl rfl (fun _ => ?_) (fun hh => absurd (by decide) hh)
    refine ex_iload_n dX9_nextRow_34 rfl rfl ?_
    refine ex_if_ge (q := 40) (q2 := 38) dX9_nextRow_35 rfl rfl (fun hh => absurd hh (by decide)) (fun _ => ?_)
    refine ex_iconst (x := 0) dX9_nextRow_38 rfl rfl ?_
    exact ex_zret dX9_nextRow_39 rfl (by decide) rfl rfl
  | succ j ih =>
    intro hj
    have hj : j + 1 < os.length := by omega
    have hgj := hg (j + 1) hj
    have hgj0 := hg j (by omega)
    by_cases c1 : os.getD (j + 1) 0 < os.getD j 0
    · obtain ⟨σ', hE, hR, hs⟩ := ih (by omega)
      have e1 : nk os (j + 1) = nk os j := by rw [nk, if_pos c1]
      rw [e1]
      refine ⟨σ', ?_, hR, hs⟩
      refine Ex.of_ls (ls' := [some (.ref 55), some (.int (nI j)), none, none, none]) (by rw [pk_m1 j]) ?_
      refine ex_iload_n dX9_nextRow_7 rfl rfl ?_
      refine ex_if_lt (q := 34) (q2 := 11) dX9_nextRow_8 rfl rfl (fun hh => absurd hh (nI_pos (by omega))) (fun _ => ?_)
      refine ex_aload_n dX9_nextRow_11 rfl rfl ?_
      refine ex_getR (b := 74) dX9_nextRow_12 rfl qp_8_64 rfl rfl ?_
      refine ex_iload_n dX9_nextRow_15 rfl rfl ?_
      refine ex_iaload (k := j) (x := nI (os.getD j 0)) dX9_nextRow_16 rfl rfl (rfl) (by omega) (by decide) (h.2.2 j (by omega)) ?_
      refine ex_aload_n dX9_nextRow_17 rfl rfl ?_
      refine ex_getR (b := 74) dX9_nextRow_18 rfl qp_8_64 rfl rfl ?_
      refine ex_iload_n dX9_nextRow_21 rfl rfl ?_
      refine ex_iconst (x := 1) dX9_nextRow_22 rfl rfl ?_
      refine ex_iadd (z := nI (j + 1)) dX9_nextRow_23 rfl (nI_add j 1) ?_
      refine ex_iaload (k := j + 1) (x := nI (os.getD (j + 1) 0)) dX9_nextRow_24 rfl rfl (rfl) (by omega) (by decide) (h.2.2 (j + 1) (by omega)) ?_
      refine ex_icmp_le (q := 34) (q2 := 28) dX9_nextRow_25 rfl rfl (fun hh => absurd hh (nI_ge (a := (os.getD (j + 1) 0)) (b := (os.getD j 0)) (by omega) (by omega))) (fun _ => ?_)
      refine ex_iinc (y := (nI j) + (-1)) (ls' := [some (.ref 55), some (.int ((nI j) + (-1))), none, none, none]) dX9_nextRow_28 rfl rfl rfl (rfl) rfl ?_
      refine ex_goto (q := 7) dX9_nextRow_31 rfl ?_
      exact hE
    · have e1 : nk os (j + 1) = some j := by rw [nk, if_neg c1]
      rw [e1]
      obtain ⟨σ', hE, hR, hs⟩ := l_next2 h hos (show j < os.length by omega) (os.length - 1) none none (by omega) (by omega)
      refine ⟨σ', ?_, hR, hs⟩
      refine Ex.of_ls (ls' := [some (.ref 55), some (.int (nI j)), none, none, none]) (by rw [pk_m1 j]) ?_
      refine ex_iload_n dX9_nextRow_7 rfl rfl ?_
      refine ex_if_lt (q := 34) (q2 := 11) dX9_nextRow_8 rfl rfl (fun hh => absurd hh (nI_pos (by omega))) (fun _ => ?_)
      refine ex_aload_n dX9_nextRow_11 rfl rfl ?_
      refine ex_getR (b := 74) dX9_nextRow_12 rfl qp_8_64 rfl rfl ?_
      refine ex_iload_n dX9_nextRow_15 rfl rfl ?_
      refine ex_iaload (k := j) (x := nI (os.getD j 0)) dX9_nextRow_16 rfl rfl (rfl) (by omega) (by decide) (h.2.2 j (by omega)) ?_
      refine ex_aload_n dX9_nextRow_17 rfl rfl ?_
      refine ex_getR (b := 74) dX9_nextRow_18 rfl qp_8_64 rfl rfl ?_
      refine ex_iload_n dX9_nextRow_21 rfl rfl ?_
      refine ex_iconst (x := 1) dX9_nextRow_22 rfl rfl ?_
      refine ex_iadd (z := nI (j + 1)) dX9_nextRow_23 rfl (nI_add j 1) ?_
      refine ex_iaload (k := j + 1) (x := nI (os.getD (j + 1) 0)) dX9_nextRow_24 rfl rfl (rfl) (by omega) (by decide) (h.2.2 (j + 1) (by omega)) ?_
      refine ex_icmp_le (q := 34) (q2 := 28) dX9_nextRow_25 rfl rfl (fun _ => ?_) (fun hh => absurd (nI_le (a := (os.getD j 0)) (b := (os.getD (j + 1) 0)) (by omega) (by omega)) hh)
      refine ex_iload_n dX9_nextRow_34 rfl rfl ?_
      refine ex_if_ge (q := 40) (q2 := 38) dX9_nextRow_35 rfl rfl (fun _ => ?_) (fun hh => absurd (nI_pos' (by omega)) hh)
      refine ex_aload_n dX9_nextRow_40 rfl rfl ?_
      refine ex_getI (s := 44) (x := nI os.length) dX9_nextRow_41 rfl qp_8_235 rfl rfl (h.1) ?_
      refine ex_iconst (x := 1) dX9_nextRow_44 rfl rfl ?_
      refine ex_isub (z := nI (os.length - 1)) dX9_nextRow_45 rfl (pk_sub (b := 1) (by omega)) ?_
      refine ex_istore_n (ls' := [some (.ref 55), some (.int (nI j)), some (.int (nI (os.length - 1))), none, none]) dX9_nextRow_46 rfl (Nat.le_of_ble_eq_true rfl) rfl rfl ?_
      exact hE

theorem nI_m2 (x : Int32) : x - 2 = x - nI 1 + (-1) := by
  rw [Int32.sub_eq_add_neg, Int32.sub_eq_add_neg, Int32.add_assoc]
  rfl
set_option maxHeartbeats 2000000 in
theorem k_nextRow {σ : qm_St} {os : List Nat} (h : RR σ os) (hos : ∀ l ∈ os, l < 7) : ∃ σ', Ok qm_lay 2 mX9_nextRow [.ref 55] σ (some (.int (b2i (nx os).isSome))) σ' ∧ RR σ' ((nx os).getD os) ∧ sm σ σ' 36 36 60 61 := by
  have h7 := h.2.1
  by_cases c1 : os.length = 0
  · have e1 : nx os = none := by rw [nx, c1]; rfl
    rw [e1]
    refine ⟨σ, ?_, h, sm.rf _ _ _ _ _⟩
    refine Ok.of (ls := [some (.ref 55), none, none, none, none]) (Nat.le_of_ble_eq_true rfl) rfl ?_
    refine ex_aload_n dX9_nextRow_0 rfl rfl ?_
    refine ex_getI (s := 44) (x := nI os.length) dX9_nextRow_1 rfl qp_8_235 rfl rfl (h.1) ?_
    refine ex_iconst (x := 2) dX9_nextRow_4 rfl rfl ?_
    refine ex_isub (z := nI os.length - 2) dX9_nextRow_5 rfl (rfl) ?_
    refine ex_istore_n (ls' := [some (.ref 55), some (.int (nI os.length - 2)), none, none, none]) dX9_nextRow_6 rfl (Nat.le_of_ble_eq_true rfl) rfl rfl ?_
    refine ex_iload_n dX9_nextRow_7 rfl rfl ?_
    refine ex_if_lt (q := 34) (q2 := 11) dX9_nextRow_8 rfl rfl (fun _ => ?_) (fun hh => absurd (by rw [c1]; decide) hh)
    refine ex_iload_n dX9_nextRow_34 rfl rfl ?_
    refine ex_if_ge (q := 40) (q2 := 38) dX9_nextRow_35 rfl rfl (fun hh => absurd hh (by rw [c1]; decide)) (fun _ => ?_)
    refine ex_iconst (x := 0) dX9_nextRow_38 rfl rfl ?_
    exact ex_zret dX9_nextRow_39 rfl (by decide) rfl rfl
  · obtain ⟨σ', hE, hR, hs⟩ := l_next1 h hos (os.length - 1) (by omega)
    refine ⟨σ', ?_, hR, hs⟩
    refine Ok.of (ls := [some (.ref 55), none, none, none, none]) (Nat.le_of_ble_eq_true rfl) rfl ?_
    refine ex_aload_n dX9_nextRow_0 rfl rfl ?_
    refine ex_getI (s := 44) (x := nI os.length) dX9_nextRow_1 rfl qp_8_235 rfl rfl (h.1) ?_
    refine ex_iconst (x := 2) dX9_nextRow_4 rfl rfl ?_
    refine ex_isub (z := nI (os.length - 1) + (-1)) dX9_nextRow_5 rfl ((by rw [← pk_sub (a := os.length) (b := 1) (by omega)]; exact nI_m2 _)) ?_
    refine ex_istore_n (ls' := [some (.ref 55), some (.int (nI (os.length - 1) + (-1))), none, none, none]) dX9_nextRow_6 rfl (Nat.le_of_ble_eq_true rfl) rfl rfl ?_
    exact hE

