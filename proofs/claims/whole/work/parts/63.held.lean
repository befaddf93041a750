/-! ===== the other side's reading: signs held ===== -/
def rk (s : Nat) : Nat := if s = 0 then 0 else if s = 20007 then 1 else if s = 20008 then 2 else if s = 20009 then 3 else if s = 20060 ∨ s = 20061 then 4 else if s = 20043 ∨ s = 20045 then 5 else if s = 20042 then 6 else 7
def opd (s : Nat) : Nat := if s = 20009 ∨ s = 20010 then 1 else 0
/-- signs held, how many are open, the steps -/
abbrev uS : Type := List Nat × Nat × List Nat
def unw (k : Nat) : List Nat → Nat → List Nat → uS
  | [], o, cs => ([], o, cs)
  | s :: H, o, cs => if k ≤ rk s then unw k H (o - opd s) (cs ++ [s]) else (s :: H, o, cs)
/-- where it stands: may a sign ahead come (none: a sign between must), the token, what is held -/
abbrev aS : Type := Option Bool × Nat × uS
def isop (c : Nat) : Bool := oM c || (oP c || (oA c || (oO c || oC c)))
def ru (c : Nat) : Nat := if rk (20000 + c) = 4 then 5 else rk (20000 + c)
def top4 (H : List Nat) : Bool := match H with
  | [] => false
  | s :: _ => decide (rk s = 4)
def nt (k : Nat) (H : List Nat) : Prop := match H with
  | [] => True
  | s :: _ => rk s < k
theorem unw_nt {k : Nat} {H : List Nat} (h : nt k H) (o : Nat) (cs : List Nat) : unw k H o cs = (H, o, cs) := by
  cases H with
  | nil => rfl
  | cons s H =>
    have h2 : rk s < k := h
    rw [unw, if_neg (by omega)]
theorem nt_le {k m : Nat} {H : List Nat} (h : nt k H) (hm : k ≤ m) : nt m H := by
  cases H with
  | nil => trivial
  | cons s H =>
    have h2 : rk s < k := h
    exact Nat.lt_of_lt_of_le h2 hm
theorem nt_top4 {H : List Nat} (h : nt 4 H) : top4 H = false := by
  cases H with
  | nil => rfl
  | cons s H =>
    have h2 : rk s < 4 := h
    exact decide_eq_false (by omega)
theorem ru_le {c : Nat} (h : isop c = true) : ru c ≤ 6 ∧ (oM c = false → ru c ≤ 5) ∧ (oM c = false → oP c = false → oC c = false → ru c ≤ 2) ∧ (oM c = false → oP c = false → oC c = false → oA c = false → ru c ≤ 1) ∧ (oM c = false → oP c = false → oC c = false → oA c = false → oO c = true) ∧ c ≠ 59 ∧ c ≠ 41 := by
  have hc : c = 42 ∨ c = 43 ∨ c = 45 ∨ c = 8 ∨ c = 7 ∨ c = 60 ∨ c = 61 := by
    unfold isop oM oP oA oO oC at h
    simp only [Bool.or_eq_true, decide_eq_true_eq] at h
    omega
  rcases hc with e | e | e | e | e | e | e <;> (subst e; exact ⟨by decide, by decide, by decide, by decide, by decide, by decide, by decide⟩)
section REF
variable (t : gt_T)
def stT (mn : Bool) (i : Nat) (u : uS) : aS ⊕ tR :=
  if tk t i = 1 then .inl (none, i + 1, unw 7 u.1 u.2.1 (u.2.2 ++ [tvl t i]))
  else if tk t i = 2 then .inl (none, i + 1, unw 7 u.1 u.2.1 (u.2.2 ++ [10000 + tvl t i]))
  else if tk t i = 9 ∧ mn = true then (if u.2.1 = 5 then .inr (.inl i) else .inl (some mn, i + 1, 20009 :: u.1, u.2.1 + 1, u.2.2))
  else if tk t i = 45 then (if u.2.1 = 5 then .inr (.inl i) else .inl (some false, i + 1, 20010 :: u.1, u.2.1 + 1, u.2.2))
  else if tk t i = 40 then (if u.2.1 = 5 then .inr (.inl i) else .inl (some true, i + 1, 0 :: u.1, u.2.1 + 1, u.2.2))
  else .inr (.inl i)
def stE (i : Nat) (v : uS) : aS ⊕ tR := match v.1 with
  | [] => .inr (.inr (i, v.2.2))
  | _ :: _ => .inr (.inl i)
def stC (i : Nat) (v : uS) : aS ⊕ tR := match v.1 with
  | [] => .inr (.inl i)
  | _ :: H => .inl (none, i + 1, unw 7 H (v.2.1 - 1) v.2.2)
def stO (i : Nat) (v : uS) : aS ⊕ tR :=
  if rk (20000 + tk t i) = 4 ∧ top4 v.1 = true then .inr (.inl i) else .inl (some (decide (rk (20000 + tk t i) ≤ 2)), i + 1, (20000 + tk t i) :: v.1, v.2.1, v.2.2)
def stF (i : Nat) (u : uS) : aS ⊕ tR :=
  if tk t i = 59 then stE i (unw 1 u.1 u.2.1 u.2.2)
  else if tk t i = 41 then stC i (unw 1 u.1 u.2.1 u.2.2)
  else if isop (tk t i) = true then stO t i (unw (ru (tk t i)) u.1 u.2.1 u.2.2)
  else .inr (.inl i)
def stp (a : aS) : aS ⊕ tR := match a.1 with
  | some mn => stT t mn a.2.1 a.2.2
  | none => stF t a.2.1 a.2.2
def rnA : Nat → aS → Option tR
  | 0, _ => none
  | f + 1, a => match stp t a with
    | .inl b => rnA f b
    | .inr e => some e
/-- from here it ends so -/
def Ev (a : aS) (e : tR) : Prop := ∃ f, rnA t f a = some e
theorem Ev.st {a b : aS} {e : tR} (h : stp t a = .inl b) (k : Ev t b e) : Ev t a e := by
  obtain ⟨f, hf⟩ := k
  exact ⟨f + 1, by rw [rnA, h]; exact hf⟩
theorem Ev.en {a : aS} {e : tR} (h : stp t a = .inr e) : Ev t a e := ⟨1, by rw [rnA, h]⟩
theorem Ev.eq {a b : aS} {e : tR} (h : stp t a = stp t b) (k : Ev t b e) : Ev t a e := by
  obtain ⟨f, hf⟩ := k
  cases f with
  | zero => cases hf
  | succ f => exact ⟨f + 1, by rw [rnA, h]; exact hf⟩
/-- a sign that the next token unwinds may be unwound now -/
theorem absorb {c i o : Nat} {H cs : List Nat} (h1 : 1 ≤ rk c) (h2 : isop (tk t i) = true → ru (tk t i) ≤ rk c) : stp t (none, i, c :: H, o, cs) = stp t (none, i, H, o - opd c, cs ++ [c]) := by
  have e1 : ∀ k, k ≤ rk c → unw k (c :: H) o cs = unw k H (o - opd c) (cs ++ [c]) := fun k hk => by rw [unw, if_pos hk]
  show stF t i (c :: H, o, cs) = stF t i (H, o - opd c, cs ++ [c])
  unfold stF
  by_cases c1 : tk t i = 59
  · rw [if_pos c1, if_pos c1]
    show stE i (unw 1 (c :: H) o cs) = _
    rw [e1 1 h1]
  · rw [if_neg c1, if_neg c1]
    by_cases c2 : tk t i = 41
    · rw [if_pos c2, if_pos c2]
      show stC i (unw 1 (c :: H) o cs) = _
      rw [e1 1 h1]
    · rw [if_neg c2, if_neg c2]
      by_cases c3 : isop (tk t i) = true
      · rw [if_pos c3, if_pos c3]
        show stO t i (unw (ru (tk t i)) (c :: H) o cs) = _
        rw [e1 _ (h2 c3)]
      · rw [if_neg c3, if_neg c3]
def SpS (a : aS) (r : tR) (H : List Nat) (o : Nat) : Prop := match r with
  | .inl e => Ev t a (.inl e)
  | .inr q => ∀ e, Ev t (none, q.1, H, o, q.2) e → Ev t a e
def SpB (a : aS) (r : tR) (H : List Nat) (o : Nat) : Prop := match r with
  | .inl e => Ev t a (.inl e)
  | .inr q => (oC (tk t q.1) = true → Ev t a (.inl q.1)) ∧ (oC (tk t q.1) = false → ∀ e, Ev t (none, q.1, H, o, q.2) e → Ev t a e)
theorem SpS.st {a b : aS} {r : tR} {H : List Nat} {o : Nat} (h : stp t a = .inl b) (k : SpS t b r H o) : SpS t a r H o := by
  cases r with
  | inl e => exact Ev.st t h k
  | inr q => exact fun e he => Ev.st t h (k e he)
theorem SpB.st {a b : aS} {r : tR} {H : List Nat} {o : Nat} (h : stp t a = .inl b) (k : SpB t b r H o) : SpB t a r H o := by
  cases r with
  | inl e => exact Ev.st t h k
  | inr q => exact ⟨fun z => Ev.st t h (k.1 z), fun z e he => Ev.st t h (k.2 z e he)⟩
theorem lp_exit {p : tF} {op : Nat → Bool} (ht : t.1 ≤ 160) (h0 : op 0 = false) {b : Nat} (hg : GP t b p) (Q : Nat → Prop) (hp : ∀ i cs j cs', p i cs = .inr (j, cs') → Q (tk t j)) : ∀ (f j : Nat) (c : List Nat) (k : Nat) (d : List Nat), Q (tk t j) → 160 ≤ f + j → gLp t p op f j c = .inr (k, d) → Q (tk t k) ∧ op (tk t k) = false := by
  intro f
  induction f with
  | zero =>
    intro j c k d hq hf h
    have e : j = k := congrArg Prod.fst (Sum.inr.inj h)
    subst e
    refine ⟨hq, ?_⟩
    by_cases z : tk t j = 0
    · rw [z]; exact h0
    · have := (tk_n0 z).2; omega
  | succ f ih =>
    intro j c k d hq hf h
    have h2 : (if op (tk t j) = true then rb (p (j + 1) c) (fun k d => gLp t p op f k (d ++ [20000 + tk t j])) else .inr (j, c)) = .inr (k, d) := h
    by_cases co : op (tk t j) = true
    · rw [if_pos co] at h2
      obtain ⟨j2, c2, g1, g2⟩ := rb_inr h2
      have := (hg _ _ _ _ g1).1
      exact ih j2 _ k d (hp _ _ _ _ g1) (by omega) g2
    · rw [if_neg co] at h2
      have e : j = k := congrArg Prod.fst (Sum.inr.inj h2)
      subst e
      exact ⟨hq, by simpa using co⟩
/-- a sign between: it is held -/
theorem stp_op {i o : Nat} {H cs : List Nat} (h : isop (tk t i) = true) (hn : nt (ru (tk t i)) H) (h4 : rk (20000 + tk t i) = 4 → nt 4 H) : stp t (none, i, H, o, cs) = .inl (some (decide (rk (20000 + tk t i) ≤ 2)), i + 1, (20000 + tk t i) :: H, o, cs) := by
  obtain ⟨_, _, _, _, _, g1, g2⟩ := ru_le h
  show stF t i (H, o, cs) = _
  unfold stF
  rw [if_neg g1, if_neg g2, if_pos h]
  show stO t i (unw (ru (tk t i)) H o cs) = _
  rw [unw_nt hn]
  unfold stO
  rw [if_neg (fun z => by rw [nt_top4 (h4 z.1)] at z; cases z.2)]
theorem lpS {p : tF} {op : Nat → Bool} {H : List Nat} {o : Nat} (hop : ∀ c, op c = true → isop c = true ∧ nt (ru c) H ∧ rk (20000 + c) ≠ 4 ∧ 1 ≤ rk (20000 + c) ∧ opd (20000 + c) = 0) (hp : ∀ c, op c = true → ∀ i cs, SpS t (some (decide (rk (20000 + c) ≤ 2)), i, (20000 + c) :: H, o, cs) (p i cs) ((20000 + c) :: H) o) (hlow : ∀ c, op c = true → ∀ i cs j cs', p i cs = .inr (j, cs') → isop (tk t j) = true → ru (tk t j) ≤ rk (20000 + c)) : ∀ f j cs, SpS t (none, j, H, o, cs) (gLp t p op f j cs) H o := by
  intro f
  induction f with
  | zero => intro j cs e he; exact he
  | succ f ih =>
    intro j cs
    show SpS t _ (if op (tk t j) = true then rb (p (j + 1) cs) (fun k d => gLp t p op f k (d ++ [20000 + tk t j])) else .inr (j, cs)) H o
    by_cases co : op (tk t j) = true
    · rw [if_pos co]
      obtain ⟨g1, g2, g3, g4, g5⟩ := hop _ co
      refine SpS.st t (stp_op t g1 g2 (fun z => absurd z g3)) ?_
      have h1 := hp _ co (j + 1) cs
      cases e : p (j + 1) cs with
      | inl e1 => rw [e] at h1; exact h1
      | inr q =>
        rw [e] at h1
        have h2 := ih q.1 (q.2 ++ [20000 + tk t j])
        have h3 : ∀ e2, Ev t (none, q.1, H, o, q.2 ++ [20000 + tk t j]) e2 → Ev t (some (decide (rk (20000 + tk t j) ≤ 2)), j + 1, (20000 + tk t j) :: H, o, cs) e2 := fun e2 he => h1 e2 (Ev.eq t (by rw [absorb t g4 (hlow _ co _ _ _ _ e), g5]; rfl) he)
        show SpS t _ (gLp t p op f q.1 (q.2 ++ [20000 + tk t j])) H o
        cases e3 : gLp t p op f q.1 (q.2 ++ [20000 + tk t j]) with
        | inl e4 => rw [e3] at h2; exact h3 _ h2
        | inr q2 => rw [e3] at h2; exact fun e5 he => h3 _ (h2 e5 he)
    · rw [if_neg co]
      exact fun e he => he
theorem gLp_no {p : tF} {op : Nat → Bool} {j : Nat} (h : op (tk t j) = false) : ∀ f cs, gLp t p op f j cs = .inr (j, cs)
  | 0, _ => rfl
  | f + 1, cs => by
    show (if op (tk t j) = true then _ else _) = _
    rw [h]; rfl
theorem lpB {p : tF} {op : Nat → Bool} {H : List Nat} {o : Nat} (hop : ∀ c, op c = true → isop c = true ∧ nt (ru c) H ∧ rk (20000 + c) ≠ 4 ∧ 1 ≤ rk (20000 + c) ∧ opd (20000 + c) = 0) (hoC : ∀ c, oC c = true → op c = false) (hp : ∀ c, op c = true → ∀ i cs, SpB t (some (decide (rk (20000 + c) ≤ 2)), i, (20000 + c) :: H, o, cs) (p i cs) ((20000 + c) :: H) o) (hlow : ∀ c, op c = true → ∀ i cs j cs', p i cs = .inr (j, cs') → oC (tk t j) = false → isop (tk t j) = true → ru (tk t j) ≤ rk (20000 + c)) : ∀ f j cs, oC (tk t j) = false → SpB t (none, j, H, o, cs) (gLp t p op f j cs) H o := by
  intro f
  induction f with
  | zero => intro j cs hj; exact ⟨fun z => (by rw [hj] at z; cases z), fun _ e he => he⟩
  | succ f ih =>
    intro j cs hj
    show SpB t _ (if op (tk t j) = true then rb (p (j + 1) cs) (fun k d => gLp t p op f k (d ++ [20000 + tk t j])) else .inr (j, cs)) H o
    by_cases co : op (tk t j) = true
    · rw [if_pos co]
      obtain ⟨g1, g2, g3, g4, g5⟩ := hop _ co
      refine SpB.st t (stp_op t g1 g2 (fun z => absurd z g3)) ?_
      have h1 := hp _ co (j + 1) cs
      cases e : p (j + 1) cs with
      | inl e1 => rw [e] at h1; exact h1
      | inr q =>
        rw [e] at h1
        show SpB t _ (gLp t p op f q.1 (q.2 ++ [20000 + tk t j])) H o
        cases hb : oC (tk t q.1) with
        | true =>
          rw [gLp_no t (hoC _ hb)]
          exact ⟨fun _ => h1.1 hb, fun z => by rw [hb] at z; cases z⟩
        | false =>
          have h2 := ih q.1 (q.2 ++ [20000 + tk t j]) hb
          have h3 : ∀ e2, Ev t (none, q.1, H, o, q.2 ++ [20000 + tk t j]) e2 → Ev t (some (decide (rk (20000 + tk t j) ≤ 2)), j + 1, (20000 + tk t j) :: H, o, cs) e2 := fun e2 he => h1.2 hb e2 (Ev.eq t (by rw [absorb t g4 (hlow _ co _ _ _ _ e hb), g5]; rfl) he)
          cases e3 : gLp t p op f q.1 (q.2 ++ [20000 + tk t j]) with
          | inl e4 => rw [e3] at h2; exact h3 _ h2
          | inr q2 =>
            rw [e3] at h2
            exact ⟨fun z => h3 _ (h2.1 z), fun z e5 he => h3 _ (h2.2 z e5 he)⟩
    · rw [if_neg co]
      exact ⟨fun z => (by rw [hj] at z; cases z), fun _ e he => he⟩
theorem hopM {H : List Nat} (h : nt 6 H) : ∀ c, oM c = true → isop c = true ∧ nt (ru c) H ∧ rk (20000 + c) ≠ 4 ∧ 1 ≤ rk (20000 + c) ∧ opd (20000 + c) = 0 := fun c hc => by
  have e : c = 42 := of_decide_eq_true hc
  subst e
  exact ⟨by decide, h, by decide, by decide, by decide⟩
theorem hopP {H : List Nat} (h : nt 5 H) : ∀ c, oP c = true → isop c = true ∧ nt (ru c) H ∧ rk (20000 + c) ≠ 4 ∧ 1 ≤ rk (20000 + c) ∧ opd (20000 + c) = 0 := fun c hc => by
  unfold oP at hc
  rw [Bool.or_eq_true] at hc
  rcases hc with e | e
  · have e := of_decide_eq_true e
    subst e
    exact ⟨by decide, h, by decide, by decide, by decide⟩
  · have e := of_decide_eq_true e
    subst e
    exact ⟨by decide, h, by decide, by decide, by decide⟩
theorem hopA {H : List Nat} (h : nt 2 H) : ∀ c, oA c = true → isop c = true ∧ nt (ru c) H ∧ rk (20000 + c) ≠ 4 ∧ 1 ≤ rk (20000 + c) ∧ opd (20000 + c) = 0 := fun c hc => by
  have e : c = 8 := of_decide_eq_true hc
  subst e
  exact ⟨by decide, h, by decide, by decide, by decide⟩
theorem hopO {H : List Nat} (h : nt 1 H) : ∀ c, oO c = true → isop c = true ∧ nt (ru c) H ∧ rk (20000 + c) ≠ 4 ∧ 1 ≤ rk (20000 + c) ∧ opd (20000 + c) = 0 := fun c hc => by
  have e : c = 7 := of_decide_eq_true hc
  subst e
  exact ⟨by decide, h, by decide, by decide, by decide⟩
/-- the next token behind each kind of reading -/
def xT (c : Nat) : Prop := oM c = false
def xS (c : Nat) : Prop := oM c = false ∧ oP c = false
def xA (c : Nat) : Prop := (oM c = false ∧ oP c = false) ∧ oA c = false
def xO (c : Nat) : Prop := ((oM c = false ∧ oP c = false) ∧ oA c = false) ∧ oO c = false
theorem ex_T (ht : t.1 ≤ 160) {m : Nat} (hm : m ≤ 5) {i : Nat} {cs : List Nat} {j : Nat} {cs' : List Nat} (h : pTerm t m i cs = .inr (j, cs')) : xT (tk t j) := by
  obtain ⟨j1, c1, h1, h2⟩ := rb_inr h
  exact (lp_exit t ht (by decide) (GP_all t m hm).1 (fun _ => True) (fun _ _ _ _ _ => trivial) 160 j1 c1 j cs' trivial (by omega) h2).2
theorem ex_S (ht : t.1 ≤ 160) {m : Nat} (hm : m ≤ 5) {i : Nat} {cs : List Nat} {j : Nat} {cs' : List Nat} (h : pSum t m i cs = .inr (j, cs')) : xS (tk t j) := by
  obtain ⟨j1, c1, h1, h2⟩ := rb_inr h
  exact lp_exit t ht (by decide) (GP_seq t (GP_all t m hm).1 op_M) xT (fun i cs j cs' h => ex_T t ht hm h) 160 j1 c1 j cs' (ex_T t ht hm h1) (by omega) h2
theorem ex_N (ht : t.1 ≤ 160) : ∀ {m : Nat}, m ≤ 5 → ∀ {i : Nat} {cs : List Nat} {j : Nat} {cs' : List Nat}, pNot t m i cs = .inr (j, cs') → xS (tk t j) := by
  intro m
  induction m with
  | zero =>
    intro hm i cs j cs' h
    have h2 : gNot t none (pSum t 0) i cs = .inr (j, cs') := h
    unfold gNot at h2
    split at h2
    · cases h2
    · obtain ⟨j1, c1, g1, g2⟩ := rb_inr h2
      split at g2
      · obtain ⟨j2, c2, k1, k2⟩ := rb_inr g2
        have e : j2 = j := congrArg Prod.fst (Sum.inr.inj k2)
        subst e
        exact ex_S t ht hm k1
      · have e : j1 = j := congrArg Prod.fst (Sum.inr.inj g2)
        subst e
        exact ex_S t ht hm g1
  | succ m ih =>
    intro hm i cs j cs' h
    have h2 : gNot t (some (pNot t m)) (pSum t (m + 1)) i cs = .inr (j, cs') := by
      unfold pNot at h
      rw [lvU_s] at h
      exact h
    unfold gNot at h2
    split at h2
    · obtain ⟨j1, c1, g1, g2⟩ := rb_inr h2
      have e : j1 = j := congrArg Prod.fst (Sum.inr.inj g2)
      subst e
      exact ih (by omega) g1
    · obtain ⟨j1, c1, g1, g2⟩ := rb_inr h2
      split at g2
      · obtain ⟨j2, c2, k1, k2⟩ := rb_inr g2
        have e : j2 = j := congrArg Prod.fst (Sum.inr.inj k2)
        subst e
        exact ex_S t ht hm k1
      · have e : j1 = j := congrArg Prod.fst (Sum.inr.inj g2)
        subst e
        exact ex_S t ht hm g1
theorem ex_A (ht : t.1 ≤ 160) {m : Nat} (hm : m ≤ 5) {i : Nat} {cs : List Nat} {j : Nat} {cs' : List Nat} (h : pAnd t m i cs = .inr (j, cs')) : xA (tk t j) := by
  obtain ⟨j1, c1, h1, h2⟩ := rb_inr h
  exact lp_exit t ht (by decide) (GP_all t m hm).2.1 xS (fun i cs j cs' h => ex_N t ht hm h) 160 j1 c1 j cs' (ex_N t ht hm h1) (by omega) h2
theorem ex_O (ht : t.1 ≤ 160) {m : Nat} (hm : m ≤ 5) {i : Nat} {cs : List Nat} {j : Nat} {cs' : List Nat} (h : pOr t m i cs = .inr (j, cs')) : xO (tk t j) := by
  obtain ⟨j1, c1, h1, h2⟩ := rb_inr h
  exact lp_exit t ht (by decide) (GP_seq t (GP_all t m hm).2.1 op_A) xA (fun i cs j cs' h => ex_A t ht hm h) 160 j1 c1 j cs' (ex_A t ht hm h1) (by omega) h2
/-- what is owed of one, not, or with m more that may be open -/
def OwO (m : Nat) : Prop := ∀ (o : Nat), o + m = 5 → ∀ (i : Nat) (H cs : List Nat) (mn : Bool), (tk t i = 9 → mn = false) → match pOne t m i cs with
  | .inl e => Ev t (some mn, i, H, o, cs) (.inl e)
  | .inr q => ∀ e, Ev t (none, q.1, unw 7 H o q.2) e → Ev t (some mn, i, H, o, cs) e
def OwS (p : tF) (m k : Nat) : Prop := ∀ (o : Nat), o + m = 5 → ∀ (i : Nat) (H cs : List Nat) (mn : Bool), (tk t i = 9 → mn = false) → nt k H → SpS t (some mn, i, H, o, cs) (p i cs) H o
def OwB (p : tF) (m k : Nat) : Prop := ∀ (o : Nat), o + m = 5 → ∀ (i : Nat) (H cs : List Nat), nt k H → SpB t (some true, i, H, o, cs) (p i cs) H o
theorem ow_T {m : Nat} (h : OwO t m) : OwS t (pTerm t m) m 6 := by
  intro o ho i H cs mn hmn hH
  have h1 := h o ho i H cs mn hmn
  have hl := lpS t (p := pOne t m) (op := oM) (H := H) (o := o) (hopM hH) (fun c hc i cs => by
    have e : c = 42 := of_decide_eq_true hc
    subst e
    have h2 := h o ho i (20042 :: H) cs false (fun _ => rfl)
    have h3 : ∀ c2, unw 7 (20042 :: H) o c2 = (20042 :: H, o, c2) := fun c2 => unw_nt (k := 7) (H := 20042 :: H) (show rk 20042 < 7 by decide) o c2
    cases e : pOne t m i cs with
    | inl e1 => rw [e] at h2; exact h2
    | inr q =>
      rw [e] at h2
      intro e2 he
      refine h2 e2 ?_
      rw [h3]; exact he) (fun c hc i cs j cs' _ hj => by
    have e : c = 42 := of_decide_eq_true hc
    subst e
    exact (ru_le hj).1)
  show SpS t _ (rb (pOne t m i cs) (gLp t (pOne t m) oM 160)) H o
  cases e : pOne t m i cs with
  | inl e1 => rw [e] at h1; exact h1
  | inr q =>
    rw [e] at h1
    have h2 := hl 160 q.1 q.2
    have h3 : ∀ e2, Ev t (none, q.1, H, o, q.2) e2 → Ev t (some mn, i, H, o, cs) e2 := fun e2 he => h1 e2 (by rw [unw_nt (nt_le hH (by decide))]; exact he)
    show SpS t _ (gLp t (pOne t m) oM 160 q.1 q.2) H o
    cases e3 : gLp t (pOne t m) oM 160 q.1 q.2 with
    | inl e4 => rw [e3] at h2; exact h3 _ h2
    | inr q2 => rw [e3] at h2; exact fun e5 he => h3 _ (h2 e5 he)
theorem ow_S (ht : t.1 ≤ 160) {m : Nat} (hm : m ≤ 5) (h : OwS t (pTerm t m) m 6) : OwS t (pSum t m) m 5 := by
  intro o ho i H cs mn hmn hH
  have h1 := h o ho i H cs mn hmn (nt_le hH (by decide))
  have hl := lpS t (p := pTerm t m) (op := oP) (H := H) (o := o) (hopP hH) (fun c hc i cs => by
    unfold oP at hc
    rw [Bool.or_eq_true] at hc
    rcases hc with e | e
    · have e := of_decide_eq_true e
      subst e
      exact h o ho i (20043 :: H) cs false (fun _ => rfl) (show rk 20043 < 6 by decide)
    · have e := of_decide_eq_true e
      subst e
      exact h o ho i (20045 :: H) cs false (fun _ => rfl) (show rk 20045 < 6 by decide)) (fun c hc i cs j cs' hj hj2 => by
    have h5 : rk (20000 + c) = 5 := by
      unfold oP at hc
      rw [Bool.or_eq_true] at hc
      rcases hc with e | e <;> (have e := of_decide_eq_true e; subst e; decide)
    rw [h5]
    exact (ru_le hj2).2.1 (ex_T t ht hm hj))
  show SpS t _ (rb (pTerm t m i cs) (gLp t (pTerm t m) oP 160)) H o
  cases e : pTerm t m i cs with
  | inl e1 => rw [e] at h1; exact h1
  | inr q =>
    rw [e] at h1
    have h2 := hl 160 q.1 q.2
    show SpS t _ (gLp t (pTerm t m) oP 160 q.1 q.2) H o
    cases e3 : gLp t (pTerm t m) oP 160 q.1 q.2 with
    | inl e4 => rw [e3] at h2; exact h1 _ h2
    | inr q2 => rw [e3] at h2; exact fun e5 he => h1 _ (h2 e5 he)
theorem ow_N (ht : t.1 ≤ 160) {m : Nat} (hm : m ≤ 5) (hS : OwS t (pSum t m) m 5) (up : Option tF) (hup : (lvU t m).map (fun u => u.2.1) = up) (h0 : up = none → m = 0) (hu : ∀ u, up = some u → ∃ m', m = m' + 1 ∧ u = pNot t m' ∧ OwB t (pNot t m') m' 4) : OwB t (pNot t m) m 4 := by
  intro o ho i H cs hH
  show SpB t _ (gNot t ((lvU t m).map (fun u => u.2.1)) (pSum t m) i cs) H o
  rw [hup]
  unfold gNot
  by_cases c9 : tk t i = 9
  · rw [if_pos c9]
    cases e : up with
    | none =>
      have e0 := h0 e
      refine Ev.en t ?_
      show stT t true i (H, o, cs) = _
      unfold stT
      rw [if_neg (by omega), if_neg (by omega), if_pos ⟨c9, rfl⟩, if_pos (by show o = 5; omega)]
    | some u =>
      obtain ⟨m', em, eu, hB⟩ := hu u e
      subst eu
      have h1 := hB (o + 1) (by omega) (i + 1) (20009 :: H) cs (show rk 20009 < 4 by decide)
      have hst : stp t (some true, i, H, o, cs) = .inl (some true, i + 1, 20009 :: H, o + 1, cs) := by
        show stT t true i (H, o, cs) = _
        unfold stT
        rw [if_neg (by omega), if_neg (by omega), if_pos ⟨c9, rfl⟩, if_neg (by show ¬ o = 5; omega)]
      refine SpB.st t hst ?_
      show SpB t _ (rb (pNot t m' (i + 1) cs) (fun j c => .inr (j, c ++ [20009]))) H o
      cases e2 : pNot t m' (i + 1) cs with
      | inl e3 => rw [e2] at h1; exact h1
      | inr q =>
        rw [e2] at h1
        refine ⟨h1.1, fun hb e3 he => h1.2 hb e3 (Ev.eq t ?_ he)⟩
        have hx := ex_N t ht (show m' ≤ 5 by omega) e2
        rw [absorb t (c := 20009) (by decide) (fun hj => Nat.le_trans ((ru_le hj).2.2.1 hx.1 hx.2 hb) (by decide))]
        rfl
  · rw [if_neg c9]
    have h1 := hS o ho i H cs true (fun z => absurd z c9) (nt_le hH (by decide))
    cases e2 : pSum t m i cs with
    | inl e3 => rw [e2] at h1; exact h1
    | inr q =>
      rw [e2] at h1
      show SpB t _ (if oC (tk t q.1) = true then rb (pSum t m (q.1 + 1) q.2) (fun k d => .inr (k, d ++ [20000 + tk t q.1])) else .inr (q.1, q.2)) H o
      by_cases cC : oC (tk t q.1) = true
      · rw [if_pos cC]
        have hrk : isop (tk t q.1) = true ∧ rk (20000 + tk t q.1) = 4 ∧ ru (tk t q.1) = 5 ∧ opd (20000 + tk t q.1) = 0 := by
          have z := cC
          unfold oC at z
          rw [Bool.or_eq_true] at z
          rcases z with y | y <;> (have y := of_decide_eq_true y; rw [y]; decide)
        obtain ⟨r1, r2, r3, r4⟩ := hrk
        have hst := stp_op t (i := q.1) (o := o) (H := H) (cs := q.2) r1 (by rw [r3]; exact nt_le hH (by decide)) (fun _ => hH)
        rw [show decide (rk (20000 + tk t q.1) ≤ 2) = false by rw [r2]; rfl] at hst
        have h2 := hS o ho (q.1 + 1) ((20000 + tk t q.1) :: H) q.2 false (fun _ => rfl) (show rk (20000 + tk t q.1) < 5 by omega)
        cases e4 : pSum t m (q.1 + 1) q.2 with
        | inl e5 => rw [e4] at h2; exact h1 _ (Ev.st t hst h2)
        | inr q2 =>
          rw [e4] at h2
          have hx := ex_S t ht hm e4
          refine ⟨fun hb => h1 _ (Ev.st t hst (h2 _ (Ev.en t ?_))), fun hb e5 he => h1 _ (Ev.st t hst (h2 _ (Ev.eq t ?_ he)))⟩
          · have z := hb
            unfold oC at z
            rw [Bool.or_eq_true] at z
            show stF t q2.1 ((20000 + tk t q.1) :: H, o, q2.2) = _
            unfold stF
            have hrk2 : isop (tk t q2.1) = true ∧ rk (20000 + tk t q2.1) = 4 ∧ ru (tk t q2.1) = 5 ∧ tk t q2.1 ≠ 59 ∧ tk t q2.1 ≠ 41 := by
              rcases z with y | y <;> (have y := of_decide_eq_true y; rw [y]; decide)
            obtain ⟨s1, s2, s3, s4, s5⟩ := hrk2
            rw [if_neg s4, if_neg s5, if_pos s1, s3]
            show stO t q2.1 (unw 5 ((20000 + tk t q.1) :: H) o q2.2) = _
            rw [unw_nt (k := 5) (H := (20000 + tk t q.1) :: H) (show rk (20000 + tk t q.1) < 5 by omega)]
            unfold stO
            rw [if_pos ⟨s2, decide_eq_true r2⟩]
          · rw [absorb t (c := 20000 + tk t q.1) (by omega) (fun hj => Nat.le_trans ((ru_le hj).2.2.1 hx.1 hx.2 hb) (by omega)), r4]
            rfl
      · rw [if_neg cC]
        exact ⟨fun z => absurd z cC, fun _ => h1⟩
theorem ow_A (ht : t.1 ≤ 160) {m : Nat} (hm : m ≤ 5) (h : OwB t (pNot t m) m 4) : OwB t (pAnd t m) m 2 := by
  intro o ho i H cs hH
  have h1 := h o ho i H cs (nt_le hH (by decide))
  have hl := lpB t (p := pNot t m) (op := oA) (H := H) (o := o) (hopA hH) (fun c hc => by
    cases hz : oA c with
    | false => rfl
    | true =>
      have e := of_decide_eq_true hz
      subst e
      cases hc) (fun c hc i cs => by
    have e : c = 8 := of_decide_eq_true hc
    subst e
    exact h o ho i (20008 :: H) cs (show rk 20008 < 4 by decide)) (fun c hc i cs j cs' hj hb hj2 => by
    have e : c = 8 := of_decide_eq_true hc
    subst e
    have hx := ex_N t ht hm hj
    exact (ru_le hj2).2.2.1 hx.1 hx.2 hb)
  show SpB t _ (rb (pNot t m i cs) (gLp t (pNot t m) oA 160)) H o
  cases e : pNot t m i cs with
  | inl e1 => rw [e] at h1; exact h1
  | inr q =>
    rw [e] at h1
    show SpB t _ (gLp t (pNot t m) oA 160 q.1 q.2) H o
    cases hb : oC (tk t q.1) with
    | true =>
      rw [gLp_no t (by
        cases hz : oA (tk t q.1) with
        | false => rfl
        | true =>
          have e := of_decide_eq_true hz
          rw [e] at hb
          cases hb)]
      exact ⟨fun _ => h1.1 hb, fun z => by rw [hb] at z; cases z⟩
    | false =>
      have h2 := hl 160 q.1 q.2 hb
      cases e3 : gLp t (pNot t m) oA 160 q.1 q.2 with
      | inl e4 => rw [e3] at h2; exact h1.2 hb _ h2
      | inr q2 =>
        rw [e3] at h2
        exact ⟨fun z => h1.2 hb _ (h2.1 z), fun z e5 he => h1.2 hb _ (h2.2 z e5 he)⟩
theorem ow_O (ht : t.1 ≤ 160) {m : Nat} (hm : m ≤ 5) (h : OwB t (pAnd t m) m 2) : OwB t (pOr t m) m 1 := by
  intro o ho i H cs hH
  have h1 := h o ho i H cs (nt_le hH (by decide))
  have hl := lpB t (p := pAnd t m) (op := oO) (H := H) (o := o) (hopO hH) (fun c hc => by
    cases hz : oO c with
    | false => rfl
    | true =>
      have e := of_decide_eq_true hz
      subst e
      cases hc) (fun c hc i cs => by
    have e : c = 7 := of_decide_eq_true hc
    subst e
    exact h o ho i (20007 :: H) cs (show rk 20007 < 2 by decide)) (fun c hc i cs j cs' hj hb hj2 => by
    have e : c = 7 := of_decide_eq_true hc
    subst e
    have hx := ex_A t ht hm hj
    exact (ru_le hj2).2.2.2.1 hx.1.1 hx.1.2 hb hx.2)
  show SpB t _ (rb (pAnd t m i cs) (gLp t (pAnd t m) oO 160)) H o
  cases e : pAnd t m i cs with
  | inl e1 => rw [e] at h1; exact h1
  | inr q =>
    rw [e] at h1
    show SpB t _ (gLp t (pAnd t m) oO 160 q.1 q.2) H o
    cases hb : oC (tk t q.1) with
    | true =>
      rw [gLp_no t (by
        cases hz : oO (tk t q.1) with
        | false => rfl
        | true =>
          have e := of_decide_eq_true hz
          rw [e] at hb
          cases hb)]
      exact ⟨fun _ => h1.1 hb, fun z => by rw [hb] at z; cases z⟩
    | false =>
      have h2 := hl 160 q.1 q.2 hb
      cases e3 : gLp t (pAnd t m) oO 160 q.1 q.2 with
      | inl e4 => rw [e3] at h2; exact h1.2 hb _ h2
      | inr q2 =>
        rw [e3] at h2
        exact ⟨fun z => h1.2 hb _ (h2.1 z), fun z e5 he => h1.2 hb _ (h2.2 z e5 he)⟩
theorem ow_1 (ht : t.1 ≤ 160) {m : Nat} (hm : m ≤ 5) (up : Option (tF × tF)) (hup : (lvU t m).map (fun u => (u.1, u.2.2)) = up) (h0 : up = none → m = 0) (hu : ∀ u, up = some u → ∃ m', m = m' + 1 ∧ u = (pOne t m', pOr t m') ∧ OwO t m' ∧ OwB t (pOr t m') m' 1) : OwO t m := by
  intro o ho i H cs mn hmn
  have e1 : pOne t m i cs = gOne t up i cs := by show gOne t ((lvU t m).map (fun u => (u.1, u.2.2))) i cs = _; rw [hup]
  rw [e1]
  unfold gOne
  by_cases c1 : tk t i = 1
  · rw [if_pos c1]
    intro e he
    refine Ev.st t ?_ he
    show stT t mn i (H, o, cs) = _
    unfold stT
    rw [if_pos c1]
  · rw [if_neg c1]
    by_cases c2 : tk t i = 2
    · rw [if_pos c2]
      intro e he
      refine Ev.st t ?_ he
      show stT t mn i (H, o, cs) = _
      unfold stT
      rw [if_neg c1, if_pos c2]
    · rw [if_neg c2]
      have c9 : ¬ (tk t i = 9 ∧ mn = true) := fun z => by rw [hmn z.1] at z; cases z.2
      by_cases c45 : tk t i = 45
      · rw [if_pos c45]
        cases e : up with
        | none =>
          have e0 := h0 e
          refine Ev.en t ?_
          show stT t mn i (H, o, cs) = _
          unfold stT
          rw [if_neg c1, if_neg c2, if_neg c9, if_pos c45, if_pos (by show o = 5; omega)]
        | some u =>
          obtain ⟨m', em, eu, hO, hB⟩ := hu u e
          subst eu
          have hst : stp t (some mn, i, H, o, cs) = .inl (some false, i + 1, 20010 :: H, o + 1, cs) := by
            show stT t mn i (H, o, cs) = _
            unfold stT
            rw [if_neg c1, if_neg c2, if_neg c9, if_pos c45, if_neg (by show ¬ o = 5; omega)]
          have h1 := hO (o + 1) (by omega) (i + 1) (20010 :: H) cs false (fun _ => rfl)
          show match rb (pOne t m' (i + 1) cs) (fun j c => .inr (j, c ++ [20010])) with
            | .inl e => Ev t (some mn, i, H, o, cs) (.inl e)
            | .inr q => ∀ e, Ev t (none, q.1, unw 7 H o q.2) e → Ev t (some mn, i, H, o, cs) e
          cases e2 : pOne t m' (i + 1) cs with
          | inl e3 => rw [e2] at h1; exact Ev.st t hst h1
          | inr q =>
            rw [e2] at h1
            intro e3 he
            refine Ev.st t hst (h1 e3 ?_)
            have e4 : unw 7 (20010 :: H) (o + 1) q.2 = unw 7 H o (q.2 ++ [20010]) := by rw [unw, if_pos (by decide)]; rfl
            rw [e4]; exact he
      · rw [if_neg c45]
        by_cases c40 : tk t i = 40
        · rw [if_pos c40]
          cases e : up with
          | none =>
            have e0 := h0 e
            refine Ev.en t ?_
            show stT t mn i (H, o, cs) = _
            unfold stT
            rw [if_neg c1, if_neg c2, if_neg c9, if_neg c45, if_pos c40, if_pos (by show o = 5; omega)]
          | some u =>
            obtain ⟨m', em, eu, hO, hB⟩ := hu u e
            subst eu
            have hst : stp t (some mn, i, H, o, cs) = .inl (some true, i + 1, 0 :: H, o + 1, cs) := by
              show stT t mn i (H, o, cs) = _
              unfold stT
              rw [if_neg c1, if_neg c2, if_neg c9, if_neg c45, if_pos c40, if_neg (by show ¬ o = 5; omega)]
            have h1 := hB (o + 1) (by omega) (i + 1) (0 :: H) cs (show rk 0 < 1 by decide)
            show match rb (pOr t m' (i + 1) cs) (fun j c => if tk t j = 41 then .inr (j + 1, c) else .inl j) with
              | .inl e => Ev t (some mn, i, H, o, cs) (.inl e)
              | .inr q => ∀ e, Ev t (none, q.1, unw 7 H o q.2) e → Ev t (some mn, i, H, o, cs) e
            cases e2 : pOr t m' (i + 1) cs with
            | inl e3 => rw [e2] at h1; exact Ev.st t hst h1
            | inr q =>
              rw [e2] at h1
              have hx := ex_O t ht (show m' ≤ 5 by omega) e2
              have hun : ∀ c2, unw 1 (0 :: H) (o + 1) c2 = (0 :: H, o + 1, c2) := fun c2 => unw_nt (k := 1) (H := 0 :: H) (show rk 0 < 1 by decide) _ _
              show match (if tk t q.1 = 41 then (.inr (q.1 + 1, q.2) : tR) else .inl q.1) with
                | .inl e => Ev t (some mn, i, H, o, cs) (.inl e)
                | .inr q => ∀ e, Ev t (none, q.1, unw 7 H o q.2) e → Ev t (some mn, i, H, o, cs) e
              by_cases c41 : tk t q.1 = 41
              · rw [if_pos c41]
                intro e3 he
                refine Ev.st t hst (h1.2 (by rw [c41]; decide) e3 (Ev.st t ?_ he))
                show stF t q.1 (0 :: H, o + 1, q.2) = _
                unfold stF
                rw [if_neg (by omega), if_pos c41]
                show stC q.1 (unw 1 (0 :: H) (o + 1) q.2) = _
                rw [hun]
                rfl
              · rw [if_neg c41]
                refine Ev.st t hst ?_
                cases hb : oC (tk t q.1) with
                | true => exact h1.1 hb
                | false =>
                  refine h1.2 hb _ (Ev.en t ?_)
                  show stF t q.1 (0 :: H, o + 1, q.2) = _
                  unfold stF
                  by_cases c59 : tk t q.1 = 59
                  · rw [if_pos c59]
                    show stE q.1 (unw 1 (0 :: H) (o + 1) q.2) = _
                    rw [hun]
                    rfl
                  · rw [if_neg c59, if_neg c41, if_neg (fun z => by
                      unfold isop at z
                      rw [hx.1.1.1, hx.1.1.2, hx.1.2, hx.2, hb] at z
                      cases z)]
        · rw [if_neg c40]
          refine Ev.en t ?_
          show stT t mn i (H, o, cs) = _
          unfold stT
          rw [if_neg c1, if_neg c2, if_neg c9, if_neg c45, if_neg c40]
theorem ow_all (ht : t.1 ≤ 160) : ∀ m, m ≤ 5 → OwO t m ∧ OwB t (pNot t m) m 4 ∧ OwB t (pOr t m) m 1 := by
  intro m
  induction m with
  | zero =>
    intro hm
    have h1 : OwO t 0 := ow_1 t ht hm none rfl (fun _ => rfl) (fun u z => by cases z)
    have hS := ow_S t ht hm (ow_T t h1)
    have hN : OwB t (pNot t 0) 0 4 := ow_N t ht hm hS none rfl (fun _ => rfl) (fun u z => by cases z)
    exact ⟨h1, hN, ow_O t ht hm (ow_A t ht hm hN)⟩
  | succ m ih =>
    intro hm
    obtain ⟨i1, i2, i3⟩ := ih (by omega)
    have h1 : OwO t (m + 1) := ow_1 t ht hm (some (pOne t m, pOr t m)) (by rw [lvU_s]; rfl) (fun z => by cases z) (fun u z => ⟨m, rfl, (Option.some.inj z).symm, i1, i3⟩)
    have hS := ow_S t ht hm (ow_T t h1)
    have hN : OwB t (pNot t (m + 1)) (m + 1) 4 := ow_N t ht hm hS (some (pNot t m)) (by rw [lvU_s]; rfl) (fun z => by cases z) (fun u z => ⟨m, rfl, (Option.some.inj z).symm, i2⟩)
    exact ⟨h1, hN, ow_O t ht hm (ow_A t ht hm hN)⟩
/-- an E up to its ; -/
def pE (i : Nat) (cs : List Nat) : tR := rb (pOr t 5 i cs) (fun j c => if tk t j = 59 then .inr (j, c) else .inl j)
theorem pE_Ev (ht : t.1 ≤ 160) (i : Nat) (cs : List Nat) : Ev t (some true, i, [], 0, cs) (pE t i cs) := by
  have h := (ow_all t ht 5 (Nat.le_refl 5)).2.2 0 rfl i [] cs trivial
  show Ev t _ (rb (pOr t 5 i cs) (fun j c => if tk t j = 59 then .inr (j, c) else .inl j))
  cases e : pOr t 5 i cs with
  | inl e1 => rw [e] at h; exact h
  | inr q =>
    rw [e] at h
    have hx := ex_O t ht (Nat.le_refl 5) e
    show Ev t _ (if tk t q.1 = 59 then .inr (q.1, q.2) else .inl q.1)
    cases hb : oC (tk t q.1) with
    | true =>
      rw [if_neg (fun z => by rw [z] at hb; cases hb)]
      exact h.1 hb
    | false =>
      refine h.2 hb _ (Ev.en t ?_)
      show stF t q.1 ([], 0, q.2) = _
      unfold stF
      by_cases c59 : tk t q.1 = 59
      · rw [if_pos c59, if_pos c59]; rfl
      · rw [if_neg c59, if_neg c59]
        by_cases c41 : tk t q.1 = 41
        · rw [if_pos c41]; rfl
        · rw [if_neg c41, if_neg (fun z => by
            unfold isop at z
            rw [hx.1.1.1, hx.1.1.2, hx.1.2, hx.2, hb] at z
            cases z)]
end REF
