/-! ===== the pure machine against the real one: one instruction ===== -/
def qm_rl (α : Nat → Nat) : Value → Value
  | .ref k => .ref (α k)
  | v => v
theorem qm_rl_cat (α : Nat → Nat) (v : Value) : (qm_rl α v).category = v.category := by cases v <;> rfl
def qm_fv (α : Nat → Nat) (σ : qm_St) : Nat ⊕ Nat → Value
  | .inl s => .int (qm_rI σ s)
  | .inr b => .ref (α b)
def qm_cell (α : Nat → Nat) (cA cR : ClassId) (σ : qm_St) : qm_LE → va_E
  | .inl (ci, fs) => .inr (ci, fs.map (qm_fv α σ))
  | .inr (.inl (n, j)) => .inl (cA, n, .inl (σ.2 j))
  | .inr (.inr (n, b)) => .inl (cR, n, .inr (.inr (.inr (.inr (fun i => some (α (b + i)))))))
def qm_W (α : Nat → Nat) (cA cR : ClassId) (lay : List qm_LE) (σ : qm_St) : va_W := lay.mapIdx fun k e => (α k, qm_cell α cA cR σ e)
theorem qm_W_at {α : Nat → Nat} {cA cR : ClassId} {lay : List qm_LE} {σ : qm_St} {k : Nat} {e : qm_LE} (h : lay[k]? = some e) : (qm_W α cA cR lay σ)[k]? = some (α k, qm_cell α cA cR σ e) := by
  simp [qm_W, List.getElem?_mapIdx, h]
/-- no number stands in two places -/
def qm_wf (lay : List qm_LE) : Prop :=
  (∀ (a b ci cj : Nat) (fs gs : List (Nat ⊕ Nat)) (i j s : Nat), lay[a]? = some (.inl (ci, fs)) → lay[b]? = some (.inl (cj, gs)) → fs[i]? = some (.inl s) → gs[j]? = some (.inl s) → a = b ∧ i = j) ∧
  ∀ a b n m j : Nat, lay[a]? = some (.inr (.inl (n, j))) → lay[b]? = some (.inr (.inl (m, j))) → a = b
theorem qm_W_wI {α : Nat → Nat} {cA cR : ClassId} {lay : List qm_LE} {σ : qm_St} (hw : qm_wf lay) {a ci k s : Nat} {fs : List (Nat ⊕ Nat)} (h : lay[a]? = some (.inl (ci, fs))) (hk : fs[k]? = some (.inl s)) (v : Int32) :
    (qm_W α cA cR lay σ).set a (α a, .inr (ci, (fs.map (qm_fv α σ)).set k (.int v))) = qm_W α cA cR lay (qm_wI σ s v) := by
  apply List.ext_getElem?
  intro q
  by_cases hq : a = q
  · subst hq
    have hl : a < (qm_W α cA cR lay σ).length := by
      have := (List.getElem?_eq_some_iff.mp (qm_W_at (α := α) (cA := cA) (cR := cR) (σ := σ) h)).1
      exact this
    rw [List.getElem?_set_self hl, qm_W_at h]
    congr 2
    show Sum.inr _ = Sum.inr _
    congr 2
    apply List.ext_getElem?
    intro j
    by_cases hj : k = j
    · subst hj
      have hkl : k < (fs.map (qm_fv α σ)).length := by
        have := (List.getElem?_eq_some_iff.mp hk).1
        simpa using this
      rw [List.getElem?_set_self hkl, List.getElem?_map, hk]
      simp [qm_fv, qm_rI, qm_wI]
    · rw [List.getElem?_set_ne hj, List.getElem?_map, List.getElem?_map]
      cases hf : fs[j]? with
      | none => rfl
      | some f =>
        cases f with
        | inr b => rfl
        | inl s' =>
          have hne : s' ≠ s := fun e => by
            subst e
            exact hj (hw.1 a a ci ci fs fs k j s' h h hk hf).2
          simp [qm_fv, qm_rI, qm_wI, hne]
  · rw [List.getElem?_set_ne hq]
    simp only [qm_W, List.getElem?_mapIdx]
    cases he : lay[q]? with
    | none => rfl
    | some e =>
      rcases e with ⟨cj, gs⟩ | ⟨n, j⟩ | ⟨n, b⟩
      · simp only [Option.map_some, qm_cell]
        congr 3
        congr 1
        apply List.map_congr_left
        intro f hf
        cases f with
        | inr b => rfl
        | inl s' =>
          obtain ⟨j, hj⟩ := List.getElem?_of_mem hf
          have hne : s' ≠ s := fun e => by
            subst e
            exact hq (hw.1 a q ci cj fs gs k j s' h he hk hj).1
          simp [qm_fv, qm_rI, qm_wI, hne]
      · rfl
      · rfl
theorem qm_W_wR {α : Nat → Nat} {cA cR : ClassId} {lay : List qm_LE} {σ : qm_St} (hw : qm_wf lay) {a n j : Nat} (h : lay[a]? = some (.inr (.inl (n, j)))) (g : Nat → Int32) :
    (qm_W α cA cR lay σ).set a (α a, .inl (cA, n, .inl g)) = qm_W α cA cR lay (qm_wR σ j g) := by
  apply List.ext_getElem?
  intro q
  by_cases hq : a = q
  · subst hq
    have hl : a < (qm_W α cA cR lay σ).length := (List.getElem?_eq_some_iff.mp (qm_W_at (α := α) (cA := cA) (cR := cR) (σ := σ) h)).1
    rw [List.getElem?_set_self hl, qm_W_at h]
    simp [qm_cell, qm_wR]
  · rw [List.getElem?_set_ne hq]
    simp only [qm_W, List.getElem?_mapIdx]
    cases he : lay[q]? with
    | none => rfl
    | some e =>
      rcases e with ⟨cj, gs⟩ | ⟨m, i⟩ | ⟨n, b⟩
      · rfl
      · have hne : i ≠ j := fun e => by
          subst e
          exact hq (hw.2 a q n m i h he)
        simp [qm_cell, qm_wR, hne]
      · rfl
theorem qm_wF_wR (σ : qm_St) (j i : Nat) (v : Int32) : qm_wF σ j i v = qm_wR σ j (upd (σ.2 j) i v) := rfl
def qm_lok (α : Nat → Nat) (LS : Array Slot) (n : Nat) (ls : qm_LS) : Prop := LS.size = n ∧ ls.length = n ∧ lv_wf LS ∧ ∀ (i : Nat) (v : Value), ls[i]? = some (some v) → LS[i]? = some (.val (qm_rl α v))
def qm_al (α : Nat → Nat) (ls : qm_LS) : List (Nat × Value) := (List.range ls.length).filterMap fun i => match ls[i]? with
  | some (some v) => some (i, qm_rl α v)
  | _ => none
theorem qm_al_mem {α : Nat → Nat} {ls : qm_LS} {q : Nat × Value} : q ∈ qm_al α ls ↔ ∃ w, ls[q.1]? = some (some w) ∧ q.2 = qm_rl α w := by
  unfold qm_al
  rw [List.mem_filterMap]
  constructor
  · rintro ⟨i, -, h⟩
    split at h
    · rename_i v hv
      cases h
      exact ⟨v, hv, rfl⟩
    · cases h
  · rintro ⟨w, h1, h2⟩
    refine ⟨q.1, List.mem_range.mpr (List.getElem?_eq_some_iff.mp h1).1, ?_⟩
    rw [h1]
    simp [← h2]
theorem qm_lok.has {α : Nat → Nat} {LS : Array Slot} {n : Nat} {ls : qm_LS} (h : qm_lok α LS n ls) : lv_has LS n (qm_al α ls) := by
  refine ⟨h.1, h.2.2.1, fun q hq => ?_⟩
  obtain ⟨w, h1, h2⟩ := qm_al_mem.mp hq
  rw [h2]
  exact h.2.2.2 _ _ h1
theorem qm_free_cat {ls : qm_LS} {i j : Nat} {w : Value} (h : qm_free ls i = true) (hj : j + 1 = i) (hw : ls[j]? = some (some w)) : w.category ≠ 2 := by
  subst hj
  simp only [qm_free, hw] at h
  cases w <;> simp_all [Value.category]
theorem qm_lok.set1 {α : Nat → Nat} {LS LS' : Array Slot} {n i : Nat} {ls : qm_LS} {v : Value} (h : qm_lok α LS n ls) (hf : qm_free ls i = true) (hi : i < ls.length)
    (h' : lv_has LS' n ((i, qm_rl α v) :: (qm_al α ls).filter (fun q => !(q.1 == i) && !(q.1 + 1 == i && q.2.category == 2)))) : qm_lok α LS' n (ls.set i (some v)) := by
  refine ⟨h'.1, by rw [List.length_set]; exact h.2.1, h'.2.1, fun j w hj => ?_⟩
  by_cases e : i = j
  · subst e
    rw [List.getElem?_set_self hi] at hj
    cases hj
    exact h'.2.2 (i, qm_rl α v) List.mem_cons_self
  · rw [List.getElem?_set_ne e] at hj
    refine h'.2.2 (j, qm_rl α w) (List.mem_cons_of_mem _ (List.mem_filter.mpr ⟨qm_al_mem.mpr ⟨w, hj, rfl⟩, ?_⟩))
    have h1 : (j == i) = false := by simpa using Ne.symm e
    by_cases e2 : j + 1 = i
    · have h3 := qm_free_cat hf e2 hj
      simp [h1, qm_rl_cat, h3]
    · simp [h1, e2]
theorem qm_lok.set2 {α : Nat → Nat} {LS LS' : Array Slot} {n i : Nat} {ls : qm_LS} {v : Value} (h : qm_lok α LS n ls) (hf : qm_free ls i = true) (hi : i + 1 < ls.length)
    (h' : lv_has LS' n ((i, qm_rl α v) :: (qm_al α ls).filter (fun q => !(q.1 == i) && (!(q.1 == i + 1) && !(q.1 + 1 == i && q.2.category == 2))))) : qm_lok α LS' n ((ls.set i (some v)).set (i + 1) none) := by
  refine ⟨h'.1, by rw [List.length_set, List.length_set]; exact h.2.1, h'.2.1, fun j w hj => ?_⟩
  by_cases e3 : i + 1 = j
  · subst e3
    rw [List.getElem?_set_self (by rw [List.length_set]; exact hi)] at hj
    cases hj
  rw [List.getElem?_set_ne e3] at hj
  by_cases e : i = j
  · subst e
    rw [List.getElem?_set_self (Nat.lt_of_succ_lt hi)] at hj
    cases hj
    exact h'.2.2 (i, qm_rl α v) List.mem_cons_self
  · rw [List.getElem?_set_ne e] at hj
    refine h'.2.2 (j, qm_rl α w) (List.mem_cons_of_mem _ (List.mem_filter.mpr ⟨qm_al_mem.mpr ⟨w, hj, rfl⟩, ?_⟩))
    have h1 : (j == i) = false := by simpa using Ne.symm e
    have h2 : (j == i + 1) = false := by simpa using Ne.symm e3
    by_cases e2 : j + 1 = i
    · have h3 := qm_free_cat hf e2 hj
      simp [h1, h2, qm_rl_cat, h3]
    · simp [h1, h2, e2]
-- what a helper says of its answer
theorem qm_iL_inv {i q : Nat} {ls : qm_LS} {st : List Value} {σ : qm_St} {r : qm_Re} (h : qm_iL i q ls st σ = some r) : ∃ x, ls[i]? = some (some (.int x)) ∧ r = (q, ls, .int x :: st, σ) := by
  unfold qm_iL at h
  split at h
  · rename_i x hx
    cases h
    exact ⟨x, hx, rfl⟩
  · cases h
theorem qm_lL_inv {i q : Nat} {ls : qm_LS} {st : List Value} {σ : qm_St} {r : qm_Re} (h : qm_lL i q ls st σ = some r) : ∃ x, ls[i]? = some (some (.long x)) ∧ r = (q, ls, .long x :: st, σ) := by
  unfold qm_lL at h
  split at h
  · rename_i x hx
    cases h
    exact ⟨x, hx, rfl⟩
  · cases h
theorem qm_aL_inv {i q : Nat} {ls : qm_LS} {st : List Value} {σ : qm_St} {r : qm_Re} (h : qm_aL i q ls st σ = some r) : ∃ x, ls[i]? = some (some (.ref x)) ∧ r = (q, ls, .ref x :: st, σ) := by
  unfold qm_aL at h
  split at h
  · rename_i x hx
    cases h
    exact ⟨x, hx, rfl⟩
  · cases h
theorem qm_iS_inv {i q : Nat} {ls : qm_LS} {st : List Value} {σ : qm_St} {r : qm_Re} (h : qm_iS i q ls st σ = some r) : ∃ x t, st = .int x :: t ∧ i < ls.length ∧ qm_free ls i = true ∧ r = (q, ls.set i (some (.int x)), t, σ) := by
  unfold qm_iS at h
  split at h
  · split at h
    · rename_i g
      cases h
      exact ⟨_, _, rfl, g.1, g.2, rfl⟩
    · cases h
  · cases h
theorem qm_aS_inv {i q : Nat} {ls : qm_LS} {st : List Value} {σ : qm_St} {r : qm_Re} (h : qm_aS i q ls st σ = some r) : ∃ x t, st = .ref x :: t ∧ i < ls.length ∧ qm_free ls i = true ∧ r = (q, ls.set i (some (.ref x)), t, σ) := by
  unfold qm_aS at h
  split at h
  · split at h
    · rename_i g
      cases h
      exact ⟨_, _, rfl, g.1, g.2, rfl⟩
    · cases h
  · cases h
theorem qm_lS_inv {i q : Nat} {ls : qm_LS} {st : List Value} {σ : qm_St} {r : qm_Re} (h : qm_lS i q ls st σ = some r) : ∃ x t, st = .long x :: t ∧ i + 1 < ls.length ∧ qm_free ls i = true ∧ r = (q, (ls.set i (some (.long x))).set (i + 1) none, t, σ) := by
  unfold qm_lS at h
  split at h
  · split at h
    · rename_i g
      cases h
      exact ⟨_, _, rfl, g.1, g.2, rfl⟩
    · cases h
  · cases h
theorem qm_inc_inv {i q : Nat} {n : Int} {ls : qm_LS} {st : List Value} {σ : qm_St} {r : qm_Re} (h : qm_inc i n q ls st σ = some r) : ∃ x, ls[i]? = some (some (.int x)) ∧ qm_free ls i = true ∧ r = (q, ls.set i (some (.int (x + Int32.ofInt n))), st, σ) := by
  unfold qm_inc at h
  split at h
  · rename_i x hx
    split at h
    · rename_i g
      cases h
      exact ⟨x, hx, g, rfl⟩
    · cases h
  · cases h
theorem qm_b_inv {f : Int32 → Int32 → Int32} {q : Nat} {ls : qm_LS} {st : List Value} {σ : qm_St} {r : qm_Re} (h : qm_b f q ls st σ = some r) : ∃ x y t, st = .int y :: .int x :: t ∧ r = (q, ls, .int (f x y) :: t, σ) := by
  unfold qm_b at h
  split at h
  · cases h
    exact ⟨_, _, _, rfl, rfl⟩
  · cases h
theorem qm_bd_inv {f : Int32 → Int32 → Int32} {q : Nat} {ls : qm_LS} {st : List Value} {σ : qm_St} {r : qm_Re} (h : qm_bd f q ls st σ = some r) : ∃ x y t, st = .int y :: .int x :: t ∧ ¬ y = 0 ∧ r = (q, ls, .int (f x y) :: t, σ) := by
  unfold qm_bd at h
  split at h
  · split at h
    · cases h
    · rename_i g
      cases h
      exact ⟨_, _, _, rfl, g, rfl⟩
  · cases h
theorem qm_u_inv {f : Int32 → Int32} {q : Nat} {ls : qm_LS} {st : List Value} {σ : qm_St} {r : qm_Re} (h : qm_u f q ls st σ = some r) : ∃ x t, st = .int x :: t ∧ r = (q, ls, .int (f x) :: t, σ) := by
  unfold qm_u at h
  split at h
  · cases h
    exact ⟨_, _, rfl, rfl⟩
  · cases h
theorem qm_lb_inv {f : Int64 → Int64 → Int64} {q : Nat} {ls : qm_LS} {st : List Value} {σ : qm_St} {r : qm_Re} (h : qm_lb f q ls st σ = some r) : ∃ x y t, st = .long y :: .long x :: t ∧ r = (q, ls, .long (f x y) :: t, σ) := by
  unfold qm_lb at h
  split at h
  · cases h
    exact ⟨_, _, _, rfl, rfl⟩
  · cases h
theorem qm_lbd_inv {f : Int64 → Int64 → Int64} {q : Nat} {ls : qm_LS} {st : List Value} {σ : qm_St} {r : qm_Re} (h : qm_lbd f q ls st σ = some r) : ∃ x y t, st = .long y :: .long x :: t ∧ ¬ y = 0 ∧ r = (q, ls, .long (f x y) :: t, σ) := by
  unfold qm_lbd at h
  split at h
  · split at h
    · cases h
    · rename_i g
      cases h
      exact ⟨_, _, _, rfl, g, rfl⟩
  · cases h
theorem qm_jmp_inv {pc : Nat} {off : Int} {ls : qm_LS} {st : List Value} {σ : qm_St} {r : qm_Re} (h : qm_jmp pc off ls st σ = some r) : ∃ t : Nat, (pc : Int) + off = (t : Int) ∧ r = (t, ls, st, σ) := by
  unfold qm_jmp at h
  split at h
  · rename_i g
    cases h
    exact ⟨_, (Int.toNat_of_nonneg g).symm, rfl⟩
  · cases h
