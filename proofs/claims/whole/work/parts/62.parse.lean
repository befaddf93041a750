/-! ===== tokens, and what is read from them ===== -/
def tIsB (c : Nat) : Bool := decide (c = 32) || decide (c = 10)
def tIsL (c : Nat) : Bool := decide (97 ≤ c) && decide (c ≤ 122)
def tIsD (c : Nat) : Bool := decide (48 ≤ c) && decide (c ≤ 57)
def tIsS (c : Nat) : Bool := decide (c = 40) || (decide (c = 41) || (decide (c = 59) || (decide (c = 43) || (decide (c = 45) || (decide (c = 42) || (decide (c = 60) || decide (c = 61)))))))
/-- from a on, as long as it is so, k at most -/
def rn (P : Nat → Bool) (f : Nat → Nat) : Nat → Nat → Nat
  | 0, a => a
  | k + 1, a => if P (f a) = true then rn P f k (a + 1) else a
theorem rn_le (P : Nat → Bool) (f : Nat → Nat) : ∀ k a, a ≤ rn P f k a ∧ rn P f k a ≤ a + k
  | 0, a => ⟨Nat.le_refl a, Nat.le_refl a⟩
  | k + 1, a => by
    rw [rn]
    by_cases c : P (f a) = true
    · rw [if_pos c]
      obtain ⟨h1, h2⟩ := rn_le P f k (a + 1)
      exact ⟨by omega, by omega⟩
    · rw [if_neg c]; exact ⟨Nat.le_refl a, by omega⟩
theorem rn_all (P : Nat → Bool) (f : Nat → Nat) : ∀ k a j, a ≤ j → j < rn P f k a → P (f j) = true
  | 0, a, j, h1, h2 => by rw [rn] at h2; omega
  | k + 1, a, j, h1, h2 => by
    rw [rn] at h2
    by_cases c : P (f a) = true
    · rw [if_pos c] at h2
      by_cases e : j = a
      · rw [e]; exact c
      · exact rn_all P f k (a + 1) j (by omega) h2
    · rw [if_neg c] at h2; omega
def alf (g : Nat → Bool) : Nat → Nat → Bool
  | 0, _ => true
  | r + 1, k => g k && alf g r (k + 1)
/-- a word of the keys and names, by its number; its sign at a place -/
def wst (w : Nat) : List Int32 := qm_str.getD (w + 1) []
def mtw (t : gt_T) (p e w : Nat) : Bool := decide ((wst w).length = e - p) && alf (fun i => decide ((wst w).getD i 0 = nI (t.2 (p + i)))) (e - p) 0
def wxf (t : gt_T) (p e : Nat) : Nat → Nat → Nat
  | 0, k => k
  | r + 1, k => if mtw t p e k = true then k else wxf t p e r (k + 1)
def wx (t : gt_T) (p e : Nat) : Nat := wxf t p e 12 0
theorem wxf_le (t : gt_T) (p e : Nat) : ∀ r k, k ≤ wxf t p e r k ∧ wxf t p e r k ≤ k + r ∧ (wxf t p e r k < k + r → mtw t p e (wxf t p e r k) = true) ∧ ∀ j, k ≤ j → j < wxf t p e r k → mtw t p e j = false
  | 0, k => ⟨Nat.le_refl k, Nat.le_refl k, fun h => by rw [wxf] at h; omega, fun j h1 h2 => by rw [wxf] at h2; omega⟩
  | r + 1, k => by
    rw [wxf]
    by_cases c : mtw t p e k = true
    · rw [if_pos c]; exact ⟨Nat.le_refl k, by omega, fun _ => c, fun j h1 h2 => by omega⟩
    · rw [if_neg c]
      obtain ⟨h1, h2, h3, h4⟩ := wxf_le t p e r (k + 1)
      refine ⟨by omega, by omega, fun h => h3 (by omega), fun j g1 g2 => ?_⟩
      by_cases e2 : j = k
      · rw [e2]; simpa using c
      · exact h4 j (by omega) g2
/-- the number in k digits from p on -/
def nv (t : gt_T) (p : Nat) : Nat → Nat
  | 0 => 0
  | k + 1 => nv t p k * 10 + t.2 (p + k) - 48
/-- a token: its place, what it is, its value, where it ends -/
def lxp (t : gt_T) (a : Nat) : Nat := rn tIsB t.2 (t.1 - a) a
def lxe (t : gt_T) (P : Nat → Bool) (p : Nat) : Nat := rn P t.2 (t.1 - p) p
def lxW (t : gt_T) (p : Nat) : Nat × Nat × Nat × Nat := (p, if wx t p (lxe t tIsL p) < 6 then 2 else if wx t p (lxe t tIsL p) < 12 then wx t p (lxe t tIsL p) - 2 else 3, wx t p (lxe t tIsL p), lxe t tIsL p)
def lxN (t : gt_T) (p : Nat) : Nat × Nat × Nat × Nat := (p, if lxe t tIsD p - p ≤ 4 then 1 else 3, nv t p (lxe t tIsD p - p), lxe t tIsD p)
def lx1 (t : gt_T) (p : Nat) : Nat × Nat × Nat × Nat :=
  if t.1 ≤ p then (p, 0, 0, p)
  else if tIsL (t.2 p) = true then lxW t p
  else if tIsD (t.2 p) = true then lxN t p
  else (p, if tIsS (t.2 p) = true then t.2 p else 3, 0, p + 1)
def lx (t : gt_T) (a : Nat) : Nat × Nat × Nat × Nat := lx1 t (lxp t a)
def tks (t : gt_T) : Nat → Nat × Nat × Nat × Nat
  | 0 => lx t 0
  | i + 1 => lx t (tks t i).2.2.2
def tpo (t : gt_T) : Nat → Nat
  | 0 => 0
  | i + 1 => (tks t i).2.2.2
def tpl (t : gt_T) (i : Nat) : Nat := (tks t i).1
def tk (t : gt_T) (i : Nat) : Nat := (tks t i).2.1
def tvl (t : gt_T) (i : Nat) : Nat := (tks t i).2.2.1
theorem tks_lx (t : gt_T) (i : Nat) : tks t i = lx t (tpo t i) := by cases i <;> rfl
theorem lxp_le (t : gt_T) {a : Nat} (h : a ≤ t.1) : a ≤ lxp t a ∧ lxp t a ≤ t.1 := by
  obtain ⟨h1, h2⟩ := rn_le tIsB t.2 (t.1 - a) a
  exact ⟨h1, by unfold lxp; omega⟩
theorem lxe_le (t : gt_T) (P : Nat → Bool) {p : Nat} (h : p < t.1) (hP : P (t.2 p) = true) : p < lxe t P p ∧ lxe t P p ≤ t.1 := by
  obtain ⟨h1, h2⟩ := rn_le P t.2 (t.1 - p) p
  refine ⟨?_, by unfold lxe; omega⟩
  unfold lxe
  obtain ⟨k, hk⟩ : ∃ k, t.1 - p = k + 1 := ⟨t.1 - p - 1, by omega⟩
  rw [hk, rn, if_pos hP]
  have := (rn_le P t.2 k (p + 1)).1
  omega
theorem lx1_ok (t : gt_T) {p : Nat} (h : p ≤ t.1) : (lx1 t p).1 = p ∧ p ≤ (lx1 t p).2.2.2 ∧ (lx1 t p).2.2.2 ≤ t.1 ∧ ((lx1 t p).2.1 = 0 ↔ p = t.1) ∧ (p < t.1 → p < (lx1 t p).2.2.2) ∧ (p = t.1 → (lx1 t p).2.2.2 = t.1) := by
  unfold lx1
  by_cases c : t.1 ≤ p
  · rw [if_pos c]
    exact ⟨rfl, Nat.le_refl p, h, ⟨fun _ => by omega, fun _ => rfl⟩, fun z => by omega, fun z => z⟩
  · rw [if_neg c]
    have hp : p < t.1 := by omega
    by_cases c2 : tIsL (t.2 p) = true
    · rw [if_pos c2]
      obtain ⟨g1, g2⟩ := lxe_le t tIsL hp c2
      unfold lxW
      refine ⟨rfl, by show p ≤ lxe t tIsL p; omega, g2, ⟨fun z => ?_, fun z => by omega⟩, fun _ => g1, fun z => by omega⟩
      have z2 : (if wx t p (lxe t tIsL p) < 6 then 2 else if wx t p (lxe t tIsL p) < 12 then wx t p (lxe t tIsL p) - 2 else 3) = 0 := z
      split at z2
      · omega
      · split at z2 <;> omega
    · rw [if_neg c2]
      by_cases c3 : tIsD (t.2 p) = true
      · rw [if_pos c3]
        obtain ⟨g1, g2⟩ := lxe_le t tIsD hp c3
        unfold lxN
        refine ⟨rfl, by show p ≤ lxe t tIsD p; omega, g2, ⟨fun z => ?_, fun z => by omega⟩, fun _ => g1, fun z => by omega⟩
        have z2 : (if lxe t tIsD p - p ≤ 4 then 1 else 3) = 0 := z
        split at z2 <;> omega
      · rw [if_neg c3]
        refine ⟨rfl, Nat.le_succ p, hp, ⟨fun z => ?_, fun z => by omega⟩, fun _ => Nat.lt_succ_self p, fun z => by omega⟩
        have z2 : (if tIsS (t.2 p) = true then t.2 p else 3) = 0 := z
        by_cases c4 : tIsS (t.2 p) = true
        · rw [if_pos c4] at z2
          rw [z2] at c4
          exact absurd c4 (by decide)
        · rw [if_neg c4] at z2; omega
theorem tpo_le (t : gt_T) : ∀ i, tpo t i ≤ t.1
  | 0 => Nat.zero_le _
  | i + 1 => by
    show (tks t i).2.2.2 ≤ t.1
    rw [tks_lx]
    exact (lx1_ok t (lxp_le t (tpo_le t i)).2).2.2.1
theorem tpl_le (t : gt_T) (i : Nat) : tpl t i ≤ t.1 := by
  unfold tpl
  rw [tks_lx]
  show (lx1 t _).1 ≤ t.1
  rw [(lx1_ok t (lxp_le t (tpo_le t i)).2).1]
  exact (lxp_le t (tpo_le t i)).2
theorem tk_0s {t : gt_T} {i : Nat} (h : tk t i = 0) : tk t (i + 1) = 0 := by
  unfold tk at h ⊢
  rw [tks_lx] at h ⊢
  have h1 := lx1_ok t (lxp_le t (tpo_le t i)).2
  have h2 := h1.2.2.2.1.mp h
  have h3 : tpo t (i + 1) = t.1 := by
    show (tks t i).2.2.2 = t.1
    rw [tks_lx]
    exact h1.2.2.2.2.2 h2
  have h4 := lxp_le t (tpo_le t (i + 1))
  exact (lx1_ok t h4.2).2.2.2.1.mpr (by omega)
theorem tk_n0 {t : gt_T} : ∀ {i : Nat}, tk t i ≠ 0 → i ≤ tpo t i ∧ i < t.1
  | 0, h => by
    refine ⟨Nat.zero_le _, ?_⟩
    unfold tk at h
    rw [tks_lx] at h
    have h1 := lx1_ok t (lxp_le t (tpo_le t 0)).2
    have h2 := lxp_le t (tpo_le t 0)
    rcases Nat.lt_or_ge 0 t.1 with q | q
    · exact q
    · exact absurd (h1.2.2.2.1.mpr (by omega)) h
  | i + 1, h => by
    have hi : tk t i ≠ 0 := fun z => h (tk_0s z)
    obtain ⟨h1, h2⟩ := tk_n0 hi
    have h3 := lx1_ok t (lxp_le t (tpo_le t i)).2
    have h4 := lxp_le t (tpo_le t i)
    have h5 : tpo t (i + 1) = (lx1 t (lxp t (tpo t i))).2.2.2 := by
      show (tks t i).2.2.2 = _
      rw [tks_lx]; rfl
    have h6 : lxp t (tpo t i) < t.1 := by
      have h7 : ¬ lxp t (tpo t i) = t.1 := fun z => hi (by unfold tk; rw [tks_lx]; exact h3.2.2.2.1.mpr z)
      omega
    have h7 := h3.2.2.2.2.1 h6
    refine ⟨by omega, ?_⟩
    unfold tk at h
    rw [tks_lx] at h
    have h8 := lx1_ok t (lxp_le t (tpo_le t (i + 1))).2
    have h9 := lxp_le t (tpo_le t (i + 1))
    rcases Nat.lt_or_ge (i + 1) t.1 with q | q
    · exact q
    · exact absurd (h8.2.2.2.1.mpr (by omega)) h
/-! reading: the place of the token that can't stand there, or the next token and the steps -/
abbrev tR : Type := Nat ⊕ (Nat × List Nat)
abbrev tF : Type := Nat → List Nat → tR
def rb (r : tR) (k : Nat → List Nat → tR) : tR := match r with
  | .inl e => .inl e
  | .inr p => k p.1 p.2
section RD
variable (t : gt_T)
def gLp (p : tF) (op : Nat → Bool) : Nat → tF
  | 0 => fun j cs => .inr (j, cs)
  | f + 1 => fun j cs => if op (tk t j) = true then rb (p (j + 1) cs) (fun k c => gLp p op f k (c ++ [20000 + tk t j])) else .inr (j, cs)
def oM (c : Nat) : Bool := decide (c = 42)
def oP (c : Nat) : Bool := decide (c = 43) || decide (c = 45)
def oA (c : Nat) : Bool := decide (c = 8)
def oO (c : Nat) : Bool := decide (c = 7)
def oC (c : Nat) : Bool := decide (c = 60) || decide (c = 61)
def gOne (up : Option (tF × tF)) : tF := fun i cs =>
  if tk t i = 1 then .inr (i + 1, cs ++ [tvl t i])
  else if tk t i = 2 then .inr (i + 1, cs ++ [10000 + tvl t i])
  else if tk t i = 45 then (match up with | none => .inl i | some u => rb (u.1 (i + 1) cs) (fun j c => .inr (j, c ++ [20010])))
  else if tk t i = 40 then (match up with | none => .inl i | some u => rb (u.2 (i + 1) cs) (fun j c => if tk t j = 41 then .inr (j + 1, c) else .inl j))
  else .inl i
def gTerm (one : tF) : tF := fun i cs => rb (one i cs) (gLp t one oM 160)
def gSum (term : tF) : tF := fun i cs => rb (term i cs) (gLp t term oP 160)
def gNot (up : Option tF) (sum : tF) : tF := fun i cs =>
  if tk t i = 9 then (match up with | none => .inl i | some u => rb (u (i + 1) cs) (fun j c => .inr (j, c ++ [20009])))
  else rb (sum i cs) (fun j c => if oC (tk t j) = true then rb (sum (j + 1) c) (fun k d => .inr (k, d ++ [20000 + tk t j])) else .inr (j, c))
def gAnd (no : tF) : tF := fun i cs => rb (no i cs) (gLp t no oA 160)
def gOr (an : tF) : tF := fun i cs => rb (an i cs) (gLp t an oO 160)
/-- one, not, or: m more may be open -/
def lvS (up : Option (tF × tF × tF)) : tF × tF × tF :=
  (gOne t (up.map fun u => (u.1, u.2.2)), gNot t (up.map fun u => u.2.1) (gSum t (gTerm t (gOne t (up.map fun u => (u.1, u.2.2))))), gOr t (gAnd t (gNot t (up.map fun u => u.2.1) (gSum t (gTerm t (gOne t (up.map fun u => (u.1, u.2.2))))))))
def lv : Nat → tF × tF × tF
  | 0 => lvS t none
  | m + 1 => lvS t (some (lv m))
def lvU : Nat → Option (tF × tF × tF)
  | 0 => none
  | m + 1 => some (lv t m)
theorem lv_eq (m : Nat) : lv t m = lvS t (lvU t m) := by cases m <;> rfl
def pOne (m : Nat) : tF := gOne t ((lvU t m).map fun u => (u.1, u.2.2))
def pTerm (m : Nat) : tF := gTerm t (pOne t m)
def pSum (m : Nat) : tF := gSum t (pTerm t m)
def pNot (m : Nat) : tF := gNot t ((lvU t m).map fun u => u.2.1) (pSum t m)
def pAnd (m : Nat) : tF := gAnd t (pNot t m)
def pOr (m : Nat) : tF := gOr t (pAnd t m)
theorem lvU_s (m : Nat) : lvU t (m + 1) = some (pOne t m, pNot t m, pOr t m) := by
  show some (lv t m) = _
  rw [lv_eq]
  rfl
/-- heights behind steps -/
def hz : List Nat → Nat → Option Nat
  | [], h => some h
  | c :: w, h => (gx_h c h).bind (hz w)
theorem hz_app : ∀ (a b : List Nat) (h : Nat), hz (a ++ b) h = (hz a h).bind (hz b)
  | [], b, h => rfl
  | c :: a, b, h => by
    show (gx_h c h).bind (hz (a ++ b)) = ((gx_h c h).bind (hz a)).bind (hz b)
    cases gx_h c h with
    | none => rfl
    | some k => exact hz_app a b k
/-- what a reading function does: it goes on, each token brings a step at most, the steps leave one number more -/
def GP (b : Nat) (p : tF) : Prop := ∀ i cs j cs', p i cs = .inr (j, cs') → i < j ∧ tk t (j - 1) ≠ 0 ∧ ∃ w, cs' = cs ++ w ∧ w.length + i ≤ j ∧ ∀ h, h + b ≤ 60 → hz w h = some (h + 1)
theorem rb_inr {r : tR} {k : Nat → List Nat → tR} {q : Nat × List Nat} (h : rb r k = .inr q) : ∃ j c, r = .inr (j, c) ∧ k j c = .inr q := by
  cases r with
  | inl e => cases h
  | inr p => exact ⟨p.1, p.2, rfl, h⟩
theorem bin_h {c h : Nat} (hc : oM (c - 20000) = true ∨ oP (c - 20000) = true ∨ oA (c - 20000) = true ∨ oO (c - 20000) = true ∨ oC (c - 20000) = true) (h2 : 20000 ≤ c) : gx_h c (h + 2) = some (h + 1) := by
  have hcs : c = 20042 ∨ c = 20043 ∨ c = 20045 ∨ c = 20008 ∨ c = 20007 ∨ c = 20060 ∨ c = 20061 := by
    unfold oM oP oA oO oC at hc
    rcases hc with q | q | q | q | q
    · have := of_decide_eq_true q; omega
    · rw [Bool.or_eq_true] at q
      rcases q with q | q <;> (have := of_decide_eq_true q; omega)
    · have := of_decide_eq_true q; omega
    · have := of_decide_eq_true q; omega
    · rw [Bool.or_eq_true] at q
      rcases q with q | q <;> (have := of_decide_eq_true q; omega)
  unfold gx_h
  rcases hcs with e | e | e | e | e | e | e <;> (subst e; rw [if_neg (by decide), if_neg (by decide), if_neg (by decide), if_pos (by decide), if_pos (by omega)]; rfl)
theorem GP_lp {b : Nat} {p : tF} (hp : GP t b p) {op : Nat → Bool} (hop : ∀ c, op c = true → (oM c = true ∨ oP c = true ∨ oA c = true ∨ oO c = true ∨ oC c = true) ∧ c ≠ 0) : ∀ (f i : Nat) (cs : List Nat) (j : Nat) (c w : List Nat), cs ++ w = c → (i < j ∧ tk t (j - 1) ≠ 0 ∧ w.length + i ≤ j ∧ ∀ h, h + (b + 1) ≤ 60 → hz w h = some (h + 1)) → ∀ k d, gLp t p op f j c = .inr (k, d) → i < k ∧ tk t (k - 1) ≠ 0 ∧ ∃ v, d = cs ++ v ∧ v.length + i ≤ k ∧ ∀ h, h + (b + 1) ≤ 60 → hz v h = some (h + 1) := by
  intro f
  induction f with
  | zero =>
    intro i cs j c w hc hw k d h
    have e := Sum.inr.inj h
    have e1 : j = k := congrArg Prod.fst e
    have e2 : c = d := congrArg Prod.snd e
    subst e1; subst e2
    exact ⟨hw.1, hw.2.1, w, hc.symm, hw.2.2.1, hw.2.2.2⟩
  | succ f ih =>
    intro i cs j c w hc hw k d h
    have h2 : (if op (tk t j) = true then rb (p (j + 1) c) (fun k d => gLp t p op f k (d ++ [20000 + tk t j])) else .inr (j, c)) = .inr (k, d) := h
    by_cases co : op (tk t j) = true
    · rw [if_pos co] at h2
      obtain ⟨j2, c2, g1, g2⟩ := rb_inr h2
      obtain ⟨k1, k2, v, k3, k4, k5⟩ := hp _ _ _ _ g1
      refine ih i cs j2 (c2 ++ [20000 + tk t j]) (w ++ v ++ [20000 + tk t j]) ?_ ⟨by omega, k2, ?_, fun x hx => ?_⟩ k d g2
      · rw [k3, ← hc, List.append_assoc, List.append_assoc, List.append_assoc]
      · rw [List.length_append, List.length_append]
        have : [20000 + tk t j].length = 1 := rfl
        omega
      · rw [hz_app, hz_app, hw.2.2.2 x hx]
        show ((hz v (x + 1)).bind _) = _
        rw [k5 (x + 1) (by omega)]
        show (gx_h (20000 + tk t j) (x + 2)).bind (hz []) = _
        rw [bin_h (by rw [Nat.add_sub_cancel_left]; exact (hop _ co).1) (by omega)]
        rfl
    · rw [if_neg co] at h2
      have e := Sum.inr.inj h2
      have e1 : j = k := congrArg Prod.fst e
      have e2 : c = d := congrArg Prod.snd e
      subst e1; subst e2
      exact ⟨hw.1, hw.2.1, w, hc.symm, hw.2.2.1, hw.2.2.2⟩
theorem GP_seq {b : Nat} {p : tF} (hp : GP t b p) {op : Nat → Bool} (hop : ∀ c, op c = true → (oM c = true ∨ oP c = true ∨ oA c = true ∨ oO c = true ∨ oC c = true) ∧ c ≠ 0) : GP t (b + 1) (fun i cs => rb (p i cs) (gLp t p op 160)) := by
  intro i cs j cs' h
  obtain ⟨j1, c1, h1, h2⟩ := rb_inr h
  obtain ⟨g1, g2, w, g3, g4, g5⟩ := hp _ _ _ _ h1
  exact GP_lp t hp hop 160 i cs j1 c1 w g3.symm ⟨g1, g2, g4, fun x hx => g5 x (by omega)⟩ j cs' h2
theorem GP_not {b : Nat} {sum : tF} (up : Option tF) (hs : GP t b sum) (hu : ∀ u, up = some u → GP t (b + 1) u) : GP t (b + 1) (gNot t up sum) := by
  intro i cs j cs' h
  unfold gNot at h
  split at h
  · cases up with
    | none => cases h
    | some u =>
      obtain ⟨j1, c1, g1, g2⟩ := rb_inr h
      obtain ⟨k1, k2, w, k3, k4, k5⟩ := hu u rfl _ _ _ _ g1
      have e := Sum.inr.inj g2
      have e1 : j1 = j := congrArg Prod.fst e
      have e2 : c1 ++ [20009] = cs' := congrArg Prod.snd e
      subst e1; subst e2
      refine ⟨by omega, k2, w ++ [20009], by rw [k3, List.append_assoc], by rw [List.length_append]; have : [20009].length = 1 := rfl; omega, fun x hx => ?_⟩
      rw [hz_app, k5 x hx]
      rfl
  · obtain ⟨j1, c1, g1, g2⟩ := rb_inr h
    obtain ⟨k1, k2, w, k3, k4, k5⟩ := hs _ _ _ _ g1
    have g3 : (if oC (tk t j1) = true then rb (sum (j1 + 1) c1) (fun k d => .inr (k, d ++ [20000 + tk t j1])) else .inr (j1, c1)) = .inr (j, cs') := g2
    by_cases c : oC (tk t j1) = true
    · rw [if_pos c] at g3
      obtain ⟨j2, c2, m1, m2⟩ := rb_inr g3
      obtain ⟨n1, n2, v, n3, n4, n5⟩ := hs _ _ _ _ m1
      have e := Sum.inr.inj m2
      have e1 : j2 = j := congrArg Prod.fst e
      have e2 : c2 ++ [20000 + tk t j1] = cs' := congrArg Prod.snd e
      subst e1; subst e2
      refine ⟨by omega, n2, w ++ v ++ [20000 + tk t j1], by rw [n3, k3, List.append_assoc, List.append_assoc, List.append_assoc], ?_, fun x hx => ?_⟩
      · rw [List.length_append, List.length_append]
        have : [20000 + tk t j1].length = 1 := rfl
        omega
      · rw [hz_app, hz_app, k5 x (by omega)]
        show ((hz v (x + 1)).bind _) = _
        rw [n5 (x + 1) (by omega)]
        show (gx_h (20000 + tk t j1) (x + 2)).bind (hz []) = _
        rw [bin_h (by rw [Nat.add_sub_cancel_left]; exact Or.inr (Or.inr (Or.inr (Or.inr c)))) (by omega)]
        rfl
    · rw [if_neg c] at g3
      have e := Sum.inr.inj g3
      have e1 : j1 = j := congrArg Prod.fst e
      have e2 : c1 = cs' := congrArg Prod.snd e
      subst e1; subst e2
      exact ⟨k1, k2, w, k3, k4, fun x hx => k5 x (by omega)⟩
theorem op_M : ∀ c, oM c = true → (oM c = true ∨ oP c = true ∨ oA c = true ∨ oO c = true ∨ oC c = true) ∧ c ≠ 0 := fun c h => ⟨Or.inl h, fun z => by rw [z] at h; cases h⟩
theorem op_P : ∀ c, oP c = true → (oM c = true ∨ oP c = true ∨ oA c = true ∨ oO c = true ∨ oC c = true) ∧ c ≠ 0 := fun c h => ⟨Or.inr (Or.inl h), fun z => by rw [z] at h; cases h⟩
theorem op_A : ∀ c, oA c = true → (oM c = true ∨ oP c = true ∨ oA c = true ∨ oO c = true ∨ oC c = true) ∧ c ≠ 0 := fun c h => ⟨Or.inr (Or.inr (Or.inl h)), fun z => by rw [z] at h; cases h⟩
theorem op_O : ∀ c, oO c = true → (oM c = true ∨ oP c = true ∨ oA c = true ∨ oO c = true ∨ oC c = true) ∧ c ≠ 0 := fun c h => ⟨Or.inr (Or.inr (Or.inr (Or.inl h))), fun z => by rw [z] at h; cases h⟩
theorem op_C : ∀ c, oC c = true → (oM c = true ∨ oP c = true ∨ oA c = true ∨ oO c = true ∨ oC c = true) ∧ c ≠ 0 := fun c h => ⟨Or.inr (Or.inr (Or.inr (Or.inr h))), fun z => by rw [z] at h; cases h⟩
theorem tvl_1 {i : Nat} (h : tk t i = 1) : tvl t i < 10000 := by
  unfold tk at h
  unfold tvl
  rw [tks_lx] at h ⊢
  unfold lx at h ⊢
  have nvb : ∀ p k, k ≤ 4 → (∀ j, j < k → tIsD (t.2 (p + j)) = true) → nv t p k < 10 ^ k := by
    intro p k
    induction k with
    | zero => intro _ _; exact Nat.lt_succ_self 0
    | succ k ih =>
      intro hk hd
      have h1 := ih (by omega) (fun j hj => hd j (by omega))
      have h2 := hd k (Nat.lt_succ_self k)
      unfold tIsD at h2
      rw [Bool.and_eq_true] at h2
      have h3 := of_decide_eq_true h2.1
      have h4 := of_decide_eq_true h2.2
      show nv t p k * 10 + t.2 (p + k) - 48 < 10 ^ (k + 1)
      rw [Nat.pow_succ]
      omega
  unfold lx1 at h ⊢
  split at h
  · cases h
  · rename_i c1
    rw [if_neg c1]
    split at h
    · rename_i c2
      unfold lxW at h
      have h2 : (if wx t (lxp t (tpo t i)) (lxe t tIsL (lxp t (tpo t i))) < 6 then 2 else if wx t (lxp t (tpo t i)) (lxe t tIsL (lxp t (tpo t i))) < 12 then wx t (lxp t (tpo t i)) (lxe t tIsL (lxp t (tpo t i))) - 2 else 3) = 1 := h
      split at h2
      · omega
      · split at h2 <;> omega
    · rename_i c2
      rw [if_neg c2]
      split at h
      · rename_i c3
        rw [if_pos c3]
        unfold lxN at h ⊢
        have h2 : (if lxe t tIsD (lxp t (tpo t i)) - lxp t (tpo t i) ≤ 4 then 1 else 3) = 1 := h
        split at h2
        · rename_i c4
          have h5 := nvb (lxp t (tpo t i)) _ c4 (fun j hj => rn_all tIsD t.2 (t.1 - lxp t (tpo t i)) (lxp t (tpo t i)) (lxp t (tpo t i) + j) (by omega) (by show lxp t (tpo t i) + j < lxe t tIsD (lxp t (tpo t i)); omega))
          exact Nat.lt_of_lt_of_le h5 (Nat.pow_le_pow_right (n := 10) (by decide) c4)
        · omega
      · have h2 : (if tIsS (t.2 (lxp t (tpo t i))) = true then t.2 (lxp t (tpo t i)) else 3) = 1 := h
        split at h2
        · rename_i c4
          rw [h2] at c4
          exact absurd c4 (by decide)
        · omega
theorem tvl_2 {i : Nat} (h : tk t i = 2) : tvl t i < 6 := by
  unfold tk at h
  unfold tvl
  rw [tks_lx] at h ⊢
  unfold lx at h ⊢
  unfold lx1 at h ⊢
  split at h
  · cases h
  · rename_i c1
    rw [if_neg c1]
    split at h
    · rename_i c2
      rw [if_pos c2]
      unfold lxW at h ⊢
      have h2 : (if wx t (lxp t (tpo t i)) (lxe t tIsL (lxp t (tpo t i))) < 6 then 2 else if wx t (lxp t (tpo t i)) (lxe t tIsL (lxp t (tpo t i))) < 12 then wx t (lxp t (tpo t i)) (lxe t tIsL (lxp t (tpo t i))) - 2 else 3) = 2 := h
      split at h2
      · rename_i c4; exact c4
      · split at h2 <;> omega
    · rename_i c2
      split at h
      · have h2 : (if lxe t tIsD (lxp t (tpo t i)) - lxp t (tpo t i) ≤ 4 then 1 else 3) = 2 := h
        split at h2 <;> omega
      · have h2 : (if tIsS (t.2 (lxp t (tpo t i))) = true then t.2 (lxp t (tpo t i)) else 3) = 2 := h
        split at h2
        · rename_i c4
          rw [h2] at c4
          exact absurd c4 (by decide)
        · omega
theorem GP_all : ∀ m, m ≤ 5 → GP t (5 * m + 1) (pOne t m) ∧ GP t (5 * m + 4) (pNot t m) ∧ GP t (5 * m + 6) (pOr t m) := by
  intro m
  induction m with
  | zero =>
    intro _
    have h1 : GP t 1 (pOne t 0) := by
      intro i cs j cs' h
      have h2 : gOne t none i cs = .inr (j, cs') := h
      unfold gOne at h2
      split at h2
      · rename_i c
        have e := Sum.inr.inj h2
        have e1 : i + 1 = j := congrArg Prod.fst e
        have e2 : cs ++ [tvl t i] = cs' := congrArg Prod.snd e
        subst e1; subst e2
        refine ⟨Nat.lt_succ_self i, by rw [Nat.add_sub_cancel]; omega, [tvl t i], rfl, by show 1 + i ≤ i + 1; omega, fun x hx => ?_⟩
        have := tvl_1 t c
        show (gx_h (tvl t i) x).bind (hz []) = _
        unfold gx_h
        rw [if_pos this, if_pos (by omega)]; rfl
      · split at h2
        · rename_i c0 c
          have e := Sum.inr.inj h2
          have e1 : i + 1 = j := congrArg Prod.fst e
          have e2 : cs ++ [10000 + tvl t i] = cs' := congrArg Prod.snd e
          subst e1; subst e2
          refine ⟨Nat.lt_succ_self i, by rw [Nat.add_sub_cancel]; omega, [10000 + tvl t i], rfl, by show 1 + i ≤ i + 1; omega, fun x hx => ?_⟩
          have := tvl_2 t c
          show (gx_h (10000 + tvl t i) x).bind (hz []) = _
          unfold gx_h
          rw [if_neg (by omega), if_pos (by omega), if_pos (by omega)]; rfl
        · split at h2
          · cases h2
          · split at h2 <;> cases h2
    have h2 := GP_seq t h1 op_M
    have h3 := GP_seq t h2 op_P
    have h4 : GP t 4 (pNot t 0) := by
      intro i cs j cs' h
      have h5 : gNot t none (pSum t 0) i cs = .inr (j, cs') := h
      exact GP_not t none h3 (fun _ z => by cases z) i cs j cs' h5
    have h5 := GP_seq t h4 op_A
    exact ⟨h1, h4, GP_seq t h5 op_O⟩
  | succ m ih =>
    intro hm
    obtain ⟨i1, i2, i3⟩ := ih (by omega)
    have h1 : GP t (5 * (m + 1) + 1) (pOne t (m + 1)) := by
      intro i cs j cs' h
      have h2 : gOne t (some (pOne t m, pOr t m)) i cs = .inr (j, cs') := by
        unfold pOne at h
        rw [lvU_s] at h
        exact h
      unfold gOne at h2
      split at h2
      · rename_i c
        have e := Sum.inr.inj h2
        have e1 : i + 1 = j := congrArg Prod.fst e
        have e2 : cs ++ [tvl t i] = cs' := congrArg Prod.snd e
        subst e1; subst e2
        refine ⟨Nat.lt_succ_self i, by rw [Nat.add_sub_cancel]; omega, [tvl t i], rfl, by show 1 + i ≤ i + 1; omega, fun x hx => ?_⟩
        have := tvl_1 t c
        show (gx_h (tvl t i) x).bind (hz []) = _
        unfold gx_h
        rw [if_pos this, if_pos (by omega)]; rfl
      · split at h2
        · rename_i c0 c
          have e := Sum.inr.inj h2
          have e1 : i + 1 = j := congrArg Prod.fst e
          have e2 : cs ++ [10000 + tvl t i] = cs' := congrArg Prod.snd e
          subst e1; subst e2
          refine ⟨Nat.lt_succ_self i, by rw [Nat.add_sub_cancel]; omega, [10000 + tvl t i], rfl, by show 1 + i ≤ i + 1; omega, fun x hx => ?_⟩
          have := tvl_2 t c
          show (gx_h (10000 + tvl t i) x).bind (hz []) = _
          unfold gx_h
          rw [if_neg (by omega), if_pos (by omega), if_pos (by omega)]; rfl
        · split at h2
          · obtain ⟨j1, c1, g1, g2⟩ := rb_inr h2
            obtain ⟨k1, k2, w, k3, k4, k5⟩ := i1 _ _ _ _ g1
            have e := Sum.inr.inj g2
            have e1 : j1 = j := congrArg Prod.fst e
            have e2 : c1 ++ [20010] = cs' := congrArg Prod.snd e
            subst e1; subst e2
            refine ⟨by omega, k2, w ++ [20010], by rw [k3, List.append_assoc], by rw [List.length_append]; have : [20010].length = 1 := rfl; omega, fun x hx => ?_⟩
            rw [hz_app, k5 x (by omega)]
            rfl
          · split at h2
            · obtain ⟨j1, c1, g1, g2⟩ := rb_inr h2
              obtain ⟨k1, k2, w, k3, k4, k5⟩ := i3 _ _ _ _ g1
              have g3 : (if tk t j1 = 41 then (.inr (j1 + 1, c1) : tR) else .inl j1) = .inr (j, cs') := g2
              split at g3
              · rename_i c41
                have e := Sum.inr.inj g3
                have e1 : j1 + 1 = j := congrArg Prod.fst e
                have e2 : c1 = cs' := congrArg Prod.snd e
                subst e1; subst e2
                exact ⟨by omega, by rw [Nat.add_sub_cancel]; omega, w, k3, by omega, fun x hx => k5 x (by omega)⟩
              · cases g3
            · cases h2
    have h2 := GP_seq t h1 op_M
    have h3 := GP_seq t h2 op_P
    have h4 : GP t (5 * (m + 1) + 4) (pNot t (m + 1)) := by
      intro i cs j cs' h
      have h5 : gNot t (some (pNot t m)) (pSum t (m + 1)) i cs = .inr (j, cs') := by
        unfold pNot at h
        rw [lvU_s] at h
        exact h
      refine GP_not t (some (pNot t m)) h3 (fun u z => ?_) i cs j cs' h5
      have z2 := Option.some.inj z
      subst z2
      intro i cs j cs' h
      obtain ⟨g1, g2, w, g3, g4, g5⟩ := i2 i cs j cs' h
      exact ⟨g1, g2, w, g3, g4, fun x hx => g5 x (by omega)⟩
    have h5 := GP_seq t h4 op_A
    exact ⟨h1, h4, GP_seq t h5 op_O⟩
end RD
