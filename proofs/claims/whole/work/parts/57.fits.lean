/-! ===== which orders fit ===== -/
def cp (p : List Nat → Bool) : List (List Nat) → Nat
  | [] => 0
  | a :: t => (if p a = true then 1 else 0) + cp p t
def fs (p : List Nat → Bool) : List (List Nat) → Option (List Nat)
  | [] => none
  | a :: t => if p a = true then some a else fs p t
theorem cp_app (p : List Nat → Bool) : ∀ A B, cp p (A ++ B) = cp p A + cp p B
  | [], B => (Nat.zero_add _).symm
  | a :: A, B => by
    show _ + cp p (A ++ B) = _ + cp p A + cp p B
    rw [cp_app p A B, Nat.add_assoc]
theorem fs_app (p : List Nat → Bool) (B : List (List Nat)) : ∀ A, fs p (A ++ B) = if cp p A = 0 then fs p B else fs p A
  | [] => rfl
  | a :: A => by
    show (if p a = true then some a else fs p (A ++ B)) = if (if p a = true then 1 else 0) + cp p A = 0 then fs p B else if p a = true then some a else fs p A
    by_cases c : p a = true
    · rw [if_pos c, if_pos c, if_pos c, if_neg (by omega)]
    · rw [if_neg c, if_neg c, if_neg c, Nat.zero_add]
      exact fs_app p B A
theorem cp_le (p : List Nat → Bool) : ∀ A, cp p A ≤ A.length
  | [] => Nat.le_refl 0
  | a :: A => by
    have := cp_le p A
    show (if p a = true then 1 else 0) + cp p A ≤ A.length + 1
    split <;> omega
theorem fs_mem {p : List Nat → Bool} {q : List Nat} : ∀ {A}, fs p A = some q → q ∈ A ∧ p q = true
  | [], h => by cases h
  | a :: A, h => by
    have h2 : (if p a = true then some a else fs p A) = some q := h
    by_cases c : p a = true
    · rw [if_pos c] at h2
      rw [← Option.some.inj h2]
      exact ⟨List.mem_cons_self, c⟩
    · rw [if_neg c] at h2
      exact ⟨List.mem_cons_of_mem _ (fs_mem h2).1, (fs_mem h2).2⟩
theorem fs_none {p : List Nat → Bool} : ∀ A, cp p A = 0 → fs p A = none
  | [], _ => rfl
  | a :: A, h => by
    have h2 : (if p a = true then 1 else 0) + cp p A = 0 := h
    show (if p a = true then some a else fs p A) = none
    by_cases c : p a = true
    · rw [if_pos c] at h2; omega
    · rw [if_neg c] at h2 ⊢; exact fs_none A (by omega)
theorem fs_some {p : List Nat → Bool} : ∀ A, 0 < cp p A → ∃ q, fs p A = some q
  | [], h => absurd h (Nat.lt_irrefl 0)
  | a :: A, h => by
    have h2 : 0 < (if p a = true then 1 else 0) + cp p A := h
    show ∃ q, (if p a = true then some a else fs p A) = some q
    by_cases c : p a = true
    · rw [if_pos c]; exact ⟨a, rfl⟩
    · rw [if_neg c] at h2 ⊢; exact fs_some A (by omega)
def fo (ok : Nat → Nat → Bool) : Nat → List Nat → Bool
  | _, [] => true
  | s, l :: t => ok s l && fo ok (s ||| 2 ^ l) t
theorem cp_map (ok : Nat → Nat → Bool) (s a : Nat) : ∀ P, cp (fo ok s) (P.map fun q => a :: q) = if ok s a = true then cp (fo ok (s ||| 2 ^ a)) P else 0
  | [] => by split <;> rfl
  | q :: P => by
    show (if (ok s a && fo ok (s ||| 2 ^ a) q) = true then 1 else 0) + cp (fo ok s) (P.map fun q => a :: q) = if ok s a = true then (if fo ok (s ||| 2 ^ a) q = true then 1 else 0) + cp (fo ok (s ||| 2 ^ a)) P else 0
    rw [cp_map ok s a P]
    by_cases c : ok s a = true
    · rw [if_pos c, if_pos c, c, Bool.true_and]
    · rw [if_neg c, if_neg c, if_neg (by rw [Bool.and_eq_true]; exact fun z => c z.1)]
theorem fs_map (ok : Nat → Nat → Bool) (s a : Nat) : ∀ P, fs (fo ok s) (P.map fun q => a :: q) = if ok s a = true then (fs (fo ok (s ||| 2 ^ a)) P).map (fun q => a :: q) else none
  | [] => by split <;> rfl
  | q :: P => by
    show (if (ok s a && fo ok (s ||| 2 ^ a) q) = true then some (a :: q) else fs (fo ok s) (P.map fun q => a :: q)) = if ok s a = true then ((if fo ok (s ||| 2 ^ a) q = true then some q else fs (fo ok (s ||| 2 ^ a)) P)).map (fun q => a :: q) else none
    rw [fs_map ok s a P]
    by_cases c : ok s a = true
    · rw [if_pos c, if_pos c, c, Bool.true_and]
      by_cases c2 : fo ok (s ||| 2 ^ a) q = true
      · rw [if_pos c2, if_pos c2]; rfl
      · rw [if_neg c2, if_neg c2]
    · rw [if_neg c, if_neg c, if_neg (by rw [Bool.and_eq_true]; exact fun z => c z.1)]
/-- how many orders there are at most -/
theorem pm_many : ∀ (n : Nat) (ls : List Nat), ls.length ≤ 7 → (pm n ls).length ≤ 2 ^ (3 * n)
  | 0, _, _ => Nat.le_refl 1
  | n + 1, ls, h => by
    by_cases e : ls = []
    · rw [e, pm_nil]; exact Nat.two_pow_pos _
    · rw [pm_cons e]
      have key : ∀ s : List Nat, (s.flatMap fun a => (pm n (ls.filter fun b => decide (b ≠ a))).map fun q => a :: q).length ≤ s.length * 2 ^ (3 * n) := by
        intro s
        induction s with
        | nil => exact Nat.zero_le _
        | cons a s ih =>
          rw [List.flatMap_cons, List.length_append, List.length_map, List.length_cons, Nat.add_mul, Nat.one_mul]
          have h2 := pm_many n (ls.filter fun b => decide (b ≠ a)) (Nat.le_trans (List.length_filter_le _ _) h)
          omega
      have h3 := key ls
      have h4 : ls.length * 2 ^ (3 * n) ≤ 8 * 2 ^ (3 * n) := Nat.mul_le_mul_right _ (by omega)
      rw [show 3 * (n + 1) = 3 * n + 3 by omega, Nat.pow_add, Nat.mul_comm (2 ^ (3 * n))]
      exact Nat.le_trans h3 h4
theorem pm_fuel : ∀ (n m : Nat) (ls : List Nat), ls.length ≤ n → ls.length ≤ m → pm n ls = pm m ls
  | 0, m, ls, h, _ => by
    rw [List.eq_nil_of_length_eq_zero (show ls.length = 0 by omega), pm_nil, pm_nil]
  | n + 1, 0, ls, _, h => by
    rw [List.eq_nil_of_length_eq_zero (show ls.length = 0 by omega), pm_nil, pm_nil]
  | n + 1, m + 1, ls, h, g => by
    by_cases e : ls = []
    · rw [e, pm_nil, pm_nil]
    · rw [pm_cons e, pm_cons e]
      have key : ∀ s : List Nat, (∀ a ∈ s, a ∈ ls) → (s.flatMap fun a => (pm n (ls.filter fun b => decide (b ≠ a))).map fun q => a :: q) = s.flatMap fun a => (pm m (ls.filter fun b => decide (b ≠ a))).map fun q => a :: q := by
        intro s
        induction s with
        | nil => intro _; rfl
        | cons a s ih =>
          intro hs
          have hl := filter_ne_len (hs a List.mem_cons_self)
          rw [List.flatMap_cons, List.flatMap_cons, ih (fun x hx => hs x (List.mem_cons_of_mem _ hx)), pm_fuel n m (ls.filter fun b => decide (b ≠ a)) (by omega) (by omega)]
      exact key ls (fun a ha => ha)
/-- of bits those that others aren't -/
def sd (a b : Nat) : Nat := a &&& (127 ^^^ b)
set_option maxRecDepth 1000000 in
theorem sd_x127 : ∀ b, b < 128 → ∀ j, j < 7 → (127 ^^^ b).testBit j = !b.testBit j := by decide +kernel
theorem sd_lt {a : Nat} (h : a < 128) (b : Nat) : sd a b < 128 := Nat.lt_of_le_of_lt Nat.and_le_left h
theorem sd_tb {a b j : Nat} (hb : b < 128) (hj : j < 7) : (sd a b).testBit j = (a.testBit j && !b.testBit j) := by
  rw [sd, Nat.testBit_and, sd_x127 b hb j hj]
theorem sd_nI {a b : Nat} (ha : a < 128) (hb : b < 128) : nI a &&& (nI b ^^^ (-1)) = nI (sd a b) := by
  have h : ∀ b, b < 128 → nI b ^^^ (-1) = nI (127 ^^^ b) ||| (nI 127 ^^^ (-1)) := by decide +kernel
  have h2 : ∀ a, a < 128 → nI a &&& (nI 127 ^^^ (-1)) = 0 := by decide +kernel
  have h3 : nI a &&& (nI b ^^^ (-1)) = (nI a &&& nI (127 ^^^ b)) ||| (nI a &&& (nI 127 ^^^ (-1))) := by
    rw [h b hb]
    apply Int32.toBitVec_inj.mp
    show (nI a).toBitVec &&& ((nI (127 ^^^ b)).toBitVec ||| (nI 127 ^^^ (-1)).toBitVec) = ((nI a).toBitVec &&& (nI (127 ^^^ b)).toBitVec) ||| ((nI a).toBitVec &&& (nI 127 ^^^ (-1)).toBitVec)
    rw [BitVec.and_or_distrib_left]
  rw [h3, h2 a ha, Int32.or_zero, nI_and]
  rfl
theorem sd_0 {a b : Nat} (ha : a < 128) (hb : b < 128) : sd a b = 0 ↔ ∀ j, j < 7 → a.testBit j = true → b.testBit j = true := by
  constructor
  · intro h j hj ht
    have h2 := sd_tb (a := a) hb hj
    rw [h, Nat.zero_testBit, ht, Bool.true_and] at h2
    cases hz : b.testBit j with
    | true => rfl
    | false => rw [hz] at h2; cases h2
  · intro h
    refine bit_ext7 (sd_lt ha b) (by decide) (fun j hj => ?_)
    rw [sd_tb hb hj, Nat.zero_testBit]
    cases hz : a.testBit j with
    | false => rfl
    | true => rw [h j hj hz]; rfl
theorem or_lt128 {s l : Nat} (hs : s < 128) (hl : l < 7) : s ||| 2 ^ l < 128 := Nat.or_lt_two_pow (n := 7) hs (Nat.pow_lt_pow_right (by omega) hl)
theorem or_gt {s l : Nat} (h : s.testBit l = false) : s < s ||| 2 ^ l := by
  have h1 : s ≤ s ||| 2 ^ l := Nat.left_le_or
  have h2 : s ≠ s ||| 2 ^ l := fun e => by
    have e2 : (s ||| 2 ^ l).testBit l = true := by rw [Nat.testBit_or, tb_2, decide_eq_true rfl, Bool.or_true]
    rw [← e, h] at e2
    cases e2
  omega
theorem sd_or {rest s l : Nat} (hr : rest < 128) (hs : s < 128) (hl : l < 7) : sd rest (s ||| 2 ^ l) = tn_cl (sd rest s) l := by
  have h1 := sd_lt hr s
  refine bit_ext7 (sd_lt hr _) (tn_cl_lt h1) (fun j hj => ?_)
  rw [sd_tb (or_lt128 hs hl) hj, tn_cl_tb l hl j hj _ h1, sd_tb hs hj, Nat.testBit_or, tb_2]
  by_cases e : l = j
  · subst e; simp
  · have e2 : ¬ j = l := fun z => e z.symm
    simp [e, e2]
theorem sd_sub {rest s l : Nat} (hr : rest < 128) (hs : s < 128) (hl : l < 7) (h : sd s rest = 0) (hb : (sd rest s).testBit l = true) : sd (s ||| 2 ^ l) rest = 0 := by
  rw [sd_tb hs hl, Bool.and_eq_true] at hb
  refine (sd_0 (or_lt128 hs hl) hr).mpr (fun j hj ht => ?_)
  rw [Nat.testBit_or, tb_2, Bool.or_eq_true] at ht
  rcases ht with ht | ht
  · exact (sd_0 hs hr).mp h j hj ht
  · rw [← of_decide_eq_true ht]; exact hb.1
theorem sd_eq {rest s : Nat} (hr : rest < 128) (hs : s < 128) (h : sd s rest = 0) : sd rest s = 0 ↔ s = rest := by
  constructor
  · intro g
    refine bit_ext7 hs hr (fun j hj => ?_)
    cases hz : s.testBit j with
    | true => exact ((sd_0 hs hr).mp h j hj hz).symm
    | false =>
      cases hy : rest.testBit j with
      | false => rfl
      | true => rw [(sd_0 hr hs).mp g j hj hy] at hz; cases hz
  · intro e
    subst e
    exact h
theorem bl_cl2 {L b a : Nat} (hL : L ≤ 7) (hb : b < 128) (ha : a < L) : bl L (tn_cl b a) = (bl L b).filter fun c => decide (c ≠ a) := by
  unfold bl
  rw [List.filter_filter]
  refine List.filter_congr (fun q hq => ?_)
  have hq := List.mem_range.mp hq
  rw [tn_cl_tb a (by omega) q (by omega) b hb]
  by_cases e : q = a
  · subst e; simp
  · simp [e]
theorem bl_0 (L : Nat) : bl L 0 = [] := by
  unfold bl
  rw [List.filter_eq_nil_iff]
  intro l _
  rw [Nat.zero_testBit]; decide
theorem bl_ne {L b : Nat} (hL : L ≤ 7) (hb : b < 2 ^ L) (h : b ≠ 0) : bl L b ≠ [] := fun e => by
  refine h (bit_ext7 (Nat.lt_of_lt_of_le hb (Nat.pow_le_pow_right (n := 2) (by omega) hL)) (by decide) (fun j hj => ?_))
  rw [Nat.zero_testBit]
  cases hz : b.testBit j with
  | false => rfl
  | true =>
    have hm : j ∈ bl L b := List.mem_filter.mpr ⟨List.mem_range.mpr (bit_lt hb hz), hz⟩
    rw [e] at hm
    cases hm
theorem bl_len2 (L b : Nat) (hL : L ≤ 7) : (bl L b).length ≤ 7 := by
  have h := List.length_filter_le (fun l => b.testBit l) (List.range L)
  rw [List.length_range] at h
  exact Nat.le_trans h hL
section FITS
variable (ok : Nat → Nat → Bool) (L rest : Nat)
def wv (s : Nat) : Nat := cp (fo ok s) (pm 7 (bl L (sd rest s)))
def fv (s : Nat) : Option (List Nat) := fs (fo ok s) (pm 7 (bl L (sd rest s)))
def hh (s l : Nat) : Bool := (sd rest s).testBit l && (decide (0 < wv ok L rest (s ||| 2 ^ l)) && ok s l)
def wg (s l : Nat) : Nat := if hh ok L rest s l = true then wv ok L rest (s ||| 2 ^ l) else 0
def wW (s : Nat) : Nat := if sd s rest = 0 then wv ok L rest s else 0
def wl (g : Nat → Nat) : Nat → Nat → Nat
  | 0, _ => 0
  | r + 1, k => g k + wl g r (k + 1)
def nl (h : Nat → Bool) : Nat → Nat → Nat
  | 0, _ => 0
  | r + 1, k => (if h k = true then 2 ^ k else 0) ||| nl h r (k + 1)
def li (h : Nat → Bool) : Nat → Nat → Option Nat
  | 0, _ => none
  | r + 1, k => if h k = true then some k else li h r (k + 1)
def wN (s : Nat) : Nat := if sd s rest = 0 then nl (hh ok L rest s) L 0 else 0
theorem wv_lt (hL : L ≤ 7) (s : Nat) : wv ok L rest s < 2 ^ 30 := by
  have h1 := cp_le (fo ok s) (pm 7 (bl L (sd rest s)))
  have h2 := pm_many 7 (bl L (sd rest s)) (bl_len2 L _ hL)
  have h3 : (2 : Nat) ^ (3 * 7) < 2 ^ 30 := by decide
  exact Nat.lt_of_le_of_lt (Nat.le_trans h1 h2) h3
theorem wv_end {s : Nat} (hr : rest < 128) (hs : s < 128) (h : sd s rest = 0) (e : s = rest) : wv ok L rest s = 1 ∧ fv ok L rest s = some [] := by
  unfold wv fv
  rw [(sd_eq hr hs h).mpr e, bl_0, pm_nil]
  exact ⟨rfl, rfl⟩
theorem wv_flat (hL : L ≤ 7) (hr : rest < 128) {s : Nat} (hs : s < 128) : ∀ (r k : Nat), k + r ≤ L →
    cp (fo ok s) (((List.range' k r).filter fun l => (sd rest s).testBit l).flatMap fun a => (pm 6 ((bl L (sd rest s)).filter fun b => decide (b ≠ a))).map fun q => a :: q) = wl (wg ok L rest s) r k ∧
    fs (fo ok s) (((List.range' k r).filter fun l => (sd rest s).testBit l).flatMap fun a => (pm 6 ((bl L (sd rest s)).filter fun b => decide (b ≠ a))).map fun q => a :: q) = (li (hh ok L rest s) r k).elim none (fun l => (fv ok L rest (s ||| 2 ^ l)).map fun q => l :: q) := by
  intro r
  induction r with
  | zero => intro k _; exact ⟨rfl, rfl⟩
  | succ r ih =>
    intro k hk
    obtain ⟨ih1, ih2⟩ := ih (k + 1) (by omega)
    rw [List.range'_succ, List.filter_cons]
    by_cases c : (sd rest s).testBit k = true
    · rw [if_pos c, List.flatMap_cons, cp_app, fs_app, ih1, ih2, ← bl_cl2 hL (sd_lt hr s) (show k < L by omega), ← sd_or hr hs (show k < 7 by omega)]
      have hk2 : k ∈ bl L (sd rest s) := List.mem_filter.mpr ⟨List.mem_range.mpr (by omega), c⟩
      have hl := filter_ne_len hk2
      rw [← bl_cl2 hL (sd_lt hr s) (show k < L by omega), ← sd_or hr hs (show k < 7 by omega)] at hl
      have hl7 := bl_len2 L (sd rest s) hL
      rw [pm_fuel 6 7 (bl L (sd rest (s ||| 2 ^ k))) (by omega) (by omega), cp_map, fs_map]
      show (if ok s k = true then wv ok L rest (s ||| 2 ^ k) else 0) + _ = wg ok L rest s k + _ ∧ (if (if ok s k = true then wv ok L rest (s ||| 2 ^ k) else 0) = 0 then _ else (if ok s k = true then (fv ok L rest (s ||| 2 ^ k)).map (fun q => k :: q) else none)) = (if hh ok L rest s k = true then some k else li (hh ok L rest s) r (k + 1)).elim none _
      unfold wg hh
      rw [c, Bool.true_and]
      by_cases c2 : ok s k = true
      · rw [if_pos c2, if_pos c2, c2, Bool.and_true]
        by_cases c3 : 0 < wv ok L rest (s ||| 2 ^ k)
        · rw [decide_eq_true c3, if_pos rfl, if_neg (by omega), if_pos rfl]
          exact ⟨rfl, rfl⟩
        · rw [decide_eq_false c3, if_neg (by decide), if_pos (by omega), if_neg (by decide), show wv ok L rest (s ||| 2 ^ k) = 0 by omega]
          exact ⟨rfl, rfl⟩
      · have c4 : ok s k = false := by simpa using c2
        rw [c4, Bool.and_false, if_neg (show ¬ (false = true) by decide), if_pos rfl, if_neg (show ¬ (false = true) by decide)]
        exact ⟨rfl, rfl⟩
    · rw [if_neg c, ih1, ih2]
      have e : hh ok L rest s k = false := by
        unfold hh
        rw [show (sd rest s).testBit k = false by simpa using c, Bool.false_and]
      show _ = wg ok L rest s k + _ ∧ _ = (if hh ok L rest s k = true then some k else li (hh ok L rest s) r (k + 1)).elim none _
      unfold wg
      rw [e, if_neg (by decide), if_neg (by decide), Nat.zero_add]
      exact ⟨rfl, rfl⟩
theorem wv_rec (hL : L ≤ 7) (hr : rest < 2 ^ L) {s : Nat} (hs : s < 128) (h : sd s rest = 0) : wW ok L rest s = (if s = rest then 1 else 0) + wl (wg ok L rest s) L 0 ∧ (s ≠ rest → fv ok L rest s = (li (hh ok L rest s) L 0).elim none (fun l => (fv ok L rest (s ||| 2 ^ l)).map fun q => l :: q)) := by
  have hr7 : rest < 128 := Nat.lt_of_lt_of_le hr (Nat.pow_le_pow_right (n := 2) (by omega) hL)
  obtain ⟨f1, f2⟩ := wv_flat ok L rest hL hr7 hs L 0 (by omega)
  rw [wW, if_pos h]
  by_cases e : s = rest
  · rw [if_pos e, (wv_end ok L rest hr7 hs h e).1]
    refine ⟨?_, fun z => absurd e z⟩
    rw [← f1, (sd_eq hr7 hs h).mpr e]
    have : ((List.range' 0 L).filter fun l => (0 : Nat).testBit l) = [] := by rw [← List.range_eq_range']; exact bl_0 L
    rw [this]
    rfl
  · have hne : sd rest s ≠ 0 := fun z => e ((sd_eq hr7 hs h).mp z)
    have hlt : sd rest s < 2 ^ L := Nat.lt_of_le_of_lt Nat.and_le_left hr
    have e2 := pm_cons (n := 6) (bl_ne hL hlt hne)
    have e3 : bl L (sd rest s) = (List.range' 0 L).filter fun l => (sd rest s).testBit l := by rw [← List.range_eq_range']; rfl
    rw [if_neg e, Nat.zero_add]
    unfold wv
    rw [e2]
    refine ⟨?_, fun _ => ?_⟩
    · rw [← f1]
      conv => lhs; rw [e3]
      rw [e3]
    · conv => lhs; unfold fv; rw [e2]
      rw [← f2]
      conv => lhs; rw [e3]
      rw [e3]
theorem wN_bit (h : Nat → Bool) : ∀ (r k j : Nat), (nl h r k).testBit j = (decide (k ≤ j ∧ j < k + r) && h j)
  | 0, k, j => by
    rw [nl, Nat.zero_testBit, decide_eq_false (by omega), Bool.false_and]
  | r + 1, k, j => by
    rw [nl, Nat.testBit_or, wN_bit h r (k + 1) j]
    by_cases e : k = j
    · subst e
      rw [decide_eq_false (by omega), Bool.false_and, Bool.or_false, decide_eq_true (by omega), Bool.true_and]
      by_cases c : h k = true
      · rw [if_pos c, tb_2, decide_eq_true rfl, c]
      · rw [if_neg c, Nat.zero_testBit]; simpa using c
    · have e1 : (if h k = true then 2 ^ k else 0).testBit j = false := by
        split
        · rw [tb_2, decide_eq_false e]
        · exact Nat.zero_testBit j
      rw [e1, Bool.false_or]
      congr 1
      exact decide_eq_decide.mpr ⟨fun z => by omega, fun z => by omega⟩
theorem li_some (h : Nat → Bool) : ∀ (r k l : Nat), li h r k = some l → h l = true ∧ k ≤ l ∧ l < k + r ∧ ∀ j, k ≤ j → j < l → h j = false
  | 0, _, _, e => by cases e
  | r + 1, k, l, e => by
    rw [li] at e
    by_cases c : h k = true
    · rw [if_pos c] at e
      rw [← Option.some.inj e]
      exact ⟨c, Nat.le_refl k, by omega, fun j h1 h2 => by omega⟩
    · rw [if_neg c] at e
      obtain ⟨g1, g2, g3, g4⟩ := li_some h r (k + 1) l e
      refine ⟨g1, by omega, by omega, fun j h1 h2 => ?_⟩
      by_cases e2 : j = k
      · rw [e2]; simpa using c
      · exact g4 j (by omega) h2
end FITS
set_option maxRecDepth 1000000 in
theorem tz_dec : ∀ n, n < 128 → ∀ l, l < 7 → n.testBit l = true → (∀ j, j < l → n.testBit j = false) → jk_tz (nI n) = nI l := by decide +kernel
theorem nl_lt (h : Nat → Bool) {L : Nat} (hL : L ≤ 7) : nl h L 0 < 128 := by
  refine Nat.lt_pow_two_of_testBit _ (n := 7) (fun j hj => ?_)
  rw [wN_bit, decide_eq_false (by omega), Bool.false_and]
theorem and_2 (n k : Nat) : n &&& 2 ^ k = if n.testBit k = true then 2 ^ k else 0 := by
  apply Nat.eq_of_testBit_eq
  intro j
  rw [Nat.testBit_and, tb_2]
  by_cases e : k = j
  · subst e
    cases hz : n.testBit k with
    | true => rw [if_pos rfl, tb_2]; simp
    | false => rw [if_neg (by decide), Nat.zero_testBit]; rfl
  · rw [decide_eq_false e, Bool.and_false]
    split
    · rw [tb_2, decide_eq_false e]
    · rw [Nat.zero_testBit]
set_option maxRecDepth 1000000 in
theorem and_127 : ∀ n, n < 128 → n &&& 127 = n := by decide +kernel
/-- whether a lot, behind others, takes what it is due -/
def co (T : tn_T) (base out : Nat) (du : Nat → Int32) (s l : Nat) : Bool := out.testBit l || decide (tn_am T l (base ||| s) du = du l)
/-- the tables of ways, from a set on -/
def FW (σ : qm_St) (ok : Nat → Nat → Bool) (L rest c : Nat) : Prop := ∀ i, c ≤ i → i < 128 → qm_rF σ 40 i = nI (wW ok L rest i) ∧ qm_rF σ 41 i = nI (wN ok L rest i)
theorem FW.set {σ : qm_St} {ok : Nat → Nat → Bool} {L rest c s : Nat} (h : FW σ ok L rest c) (hs : s < c) (j : Nat) (v : Int32) : FW (qm_wF σ j s v) ok L rest c := fun i h1 h2 => by
  rw [rF_ne (Or.inr (by omega)), rF_ne (Or.inr (by omega))]
  exact h i h1 h2

theorem tn_am_cong {T : tn_T} (hL : tn_L T ≤ 7) {f g : Nat → Int32} {l hs : Nat} (h : ∀ q, q < 7 → f q = g q) : tn_am T l hs (fun q => f q) = tn_am T l hs g := by
  unfold tn_am
  congr 1
  unfold tn_tk
  have key : ∀ n, n ≤ 7 → tn_io (tn_tkf T l hs (fun q => f q)) n = tn_io (tn_tkf T l hs g) n := by
    intro n
    induction n with
    | zero => intro _; rfl
    | succ n ih =>
      intro hn
      show tn_io (tn_tkf T l hs (fun q => f q)) n ||| tn_tkf T l hs (fun q => f q) n = tn_io (tn_tkf T l hs g) n ||| tn_tkf T l hs g n
      rw [ih (by omega)]
      congr 1
      have e := h n (by omega)
      show (if ((tn_b T l &&& hs).testBit n && decide (tn_k T n ≠ 4)) = true then (1 : Int32) <<< (f n &&& 31) else 0) = if ((tn_b T l &&& hs).testBit n && decide (tn_k T n ≠ 4)) = true then (1 : Int32) <<< (g n &&& 31) else 0
      rw [e]
  exact key _ hL
set_option maxRecDepth 8000 in
set_option maxHeartbeats 2000000 in
theorem l_cOb {T : tn_T} (hT : tn_ok T) {base out rest : Nat} (hb : base < 128) (ho : out < 128) (hr : rest < 2 ^ tn_L T) (du : Nat → Int32) {c : Nat} (hc : c < 128) (hsub : sd c rest = 0) : ∀ (r k acc nac : Nat) (x : Option Value) (σ1 : qm_St), k + r = tn_L T → TR σ1 9 18 T → qm_rI σ1 25 = nI rest → (∀ q, q < 7 → qm_rF σ1 21 q = du q) → FW σ1 (co T base out du) (tn_L T) rest (c + 1) → qm_rF σ1 40 c = nI acc → qm_rF σ1 41 c = nI nac → ∃ σ2 x2, (∀ v τ, Ex qm_lay 6 mX0_countOrders 170 [some (.ref 51), some (.ref 22), some (.int (nI base)), some (.int (nI rest)), some (.ref 26), some (.int (nI out)), some (.int (nI c)), some (.int (nI (tn_L T))), x2] [] σ2 v τ → Ex qm_lay 6 mX0_countOrders 61 [some (.ref 51), some (.ref 22), some (.int (nI base)), some (.int (nI rest)), some (.ref 26), some (.int (nI out)), some (.int (nI c)), some (.int (nI k)), x] [] σ1 v τ) ∧ FW σ2 (co T base out du) (tn_L T) rest (c + 1) ∧ qm_rF σ2 40 c = nI (acc + wl (wg (co T base out du) (tn_L T) rest c) r k) ∧ qm_rF σ2 41 c = nI (nac ||| nl (hh (co T base out du) (tn_L T) rest c) r k) ∧ sm σ1 σ2 25 25 40 42 := by
  have hL := hT.1
  have h128 : 2 ^ tn_L T ≤ 128 := Nat.pow_le_pow_right (n := 2) (by omega) hL
  have hr7 : rest < 128 := by omega
  intro r
  induction r with
  | zero =>
    intro k acc nac x σ1 hk h h25 hdu hF h40 h41
    have hkL : k = tn_L T := by omega
    subst hkL
    refine ⟨σ1, x, fun v τ hE => ?_, hF, by rw [h40]; rfl, by rw [h41, nl, Nat.or_zero], sm.rf _ _ _ _ _⟩
    refine ex_iload dX0_countOrders_61 rfl rfl ?_
    refine ex_aload_n dX0_countOrders_63 rfl rfl ?_
    refine ex_getI (s := 9) (x := nI (tn_L T)) dX0_countOrders_64 rfl qp_0_22 rfl rfl (h.1) ?_
    refine ex_icmp_ge (q := 170) (q2 := 70) dX0_countOrders_67 rfl rfl (fun _ => ?_) (fun hh => absurd (nI_le (a := (tn_L T)) (b := (tn_L T)) (by omega) (by omega)) hh)
    exact hE
  | succ r ih =>
    intro k acc nac x σ1 hk h h25 hdu hF h40 h41
    have hk7 : k < 7 := by omega
    have hL' := sd_lt hr7 c
    have eA := and_2 (sd rest c) k
    have hor := or_lt128 hc hk7
    by_cases cA : (sd rest c).testBit k = true
    · rw [if_pos cA] at eA
      have hp := Nat.two_pow_pos k
      have hp128 : 2 ^ k < 128 := Nat.pow_lt_pow_right (n := 7) (by omega) hk7
      have hcb : c.testBit k = false := by
        have z := cA
        rw [sd_tb hc hk7, Bool.and_eq_true] at z
        cases hz : c.testBit k with
        | false => rfl
        | true => rw [hz] at z; cases z.2
      have hgt := or_gt hcb
      have hsb := sd_sub hr7 hc hk7 hsub cA
      have hwl := wv_lt (co T base out du) (tn_L T) rest hL (c ||| 2 ^ k)
      by_cases cB : 0 < wv (co T base out du) (tn_L T) rest (c ||| 2 ^ k)
      · by_cases cC : (co T base out du) c k = true
        · have eh : hh (co T base out du) (tn_L T) rest c k = true := by unfold hh; rw [cA, decide_eq_true cB, cC]; rfl
          have hs1 : sm σ1 (qm_wF (qm_wF σ1 40 c (nI (acc + wv (co T base out du) (tn_L T) rest (c ||| 2 ^ k)))) 41 c (nI (nac ||| 2 ^ k))) 25 25 40 42 := ((sm.rf σ1 25 25 40 42).wF _ (by omega)).wF _ (by omega)
          have key : ∀ v τ, Ex qm_lay 6 mX0_countOrders 132 [some (.ref 51), some (.ref 22), some (.int (nI base)), some (.int (nI rest)), some (.ref 26), some (.int (nI out)), some (.int (nI c)), some (.int (nI k)), (some (.int (nI (2 ^ k))))] [] σ1 v τ → Ex qm_lay 6 mX0_countOrders 61 [some (.ref 51), some (.ref 22), some (.int (nI base)), some (.int (nI rest)), some (.ref 26), some (.int (nI out)), some (.int (nI c)), some (.int (nI k)), x] [] σ1 v τ := fun v τ hz => by
            by_cases cD : out.testBit k = true
            · have eD : out &&& 2 ^ k = 2 ^ k := by rw [and_2, if_pos cD]
              refine ex_iload dX0_countOrders_61 rfl rfl ?_
              refine ex_aload_n dX0_countOrders_63 rfl rfl ?_
              refine ex_getI (s := 9) (x := nI (tn_L T)) dX0_countOrders_64 rfl qp_0_22 rfl rfl (h.1) ?_
              refine ex_icmp_ge (q := 170) (q2 := 70) dX0_countOrders_67 rfl rfl (fun hh => absurd hh (nI_ge (a := k) (b := (tn_L T)) (by omega) (by omega))) (fun _ => ?_)
              refine ex_iconst (x := 1) dX0_countOrders_70 rfl rfl ?_
              refine ex_iload dX0_countOrders_71 rfl rfl ?_
              refine ex_ishl (z := nI (2 ^ k)) dX0_countOrders_73 rfl (nI_1shl (by omega)) ?_
              refine ex_istore (ls' := [some (.ref 51), some (.ref 22), some (.int (nI base)), some (.int (nI rest)), some (.ref 26), some (.int (nI out)), some (.int (nI c)), some (.int (nI k)), some (.int (nI (2 ^ k)))]) dX0_countOrders_74 rfl (Nat.le_of_ble_eq_true rfl) rfl rfl ?_
              refine ex_aload_n dX0_countOrders_76 rfl rfl ?_
              refine ex_getI (s := 25) (x := nI rest) dX0_countOrders_77 rfl qp_0_18 rfl rfl (h25) ?_
              refine ex_iload dX0_countOrders_80 rfl rfl ?_
              refine ex_iconst (x := (-1)) dX0_countOrders_82 rfl rfl ?_
              refine ex_ixor (z := (nI c) ^^^ (-1)) dX0_countOrders_83 rfl (rfl) ?_
              refine ex_iand (z := nI (sd rest c)) dX0_countOrders_84 rfl (sd_nI hr7 hc) ?_
              refine ex_iload dX0_countOrders_85 rfl rfl ?_
              refine ex_iand (z := nI (2 ^ k)) dX0_countOrders_87 rfl (by rw [nI_and, eA]) ?_
              refine ex_if_eq (q := 164) (q2 := 91) dX0_countOrders_88 rfl rfl (fun hh => absurd hh (fun zz => absurd ((nI_eq (a := 2 ^ k) (b := 0) (by omega) (by decide)).mp zz) (by omega))) (fun _ => ?_)
              refine ex_aload_n dX0_countOrders_91 rfl rfl ?_
              refine ex_getR (b := 52) dX0_countOrders_92 rfl qp_0_11 rfl rfl ?_
              refine ex_iload dX0_countOrders_95 rfl rfl ?_
              refine ex_iload dX0_countOrders_97 rfl rfl ?_
              refine ex_ior (z := nI (c ||| (2 ^ k))) dX0_countOrders_99 rfl (nI_or _ _) ?_
              refine ex_iaload (k := c ||| (2 ^ k)) (x := nI (wv (co T base out du) (tn_L T) rest (c ||| 2 ^ k))) dX0_countOrders_100 rfl rfl (rfl) (by omega) (by decide) ((by rw [(hF (c ||| 2 ^ k) hgt hor).1, wW, if_pos hsb])) ?_
              refine ex_if_le (q := 164) (q2 := 104) dX0_countOrders_101 rfl rfl (fun hh => absurd hh (fun zz => absurd ((nI_leI (b := 0) (by omega) (by decide)).mp zz) (by omega))) (fun _ => ?_)
              refine ex_iload dX0_countOrders_104 rfl rfl ?_
              refine ex_iload dX0_countOrders_106 rfl rfl ?_
              refine ex_iand (z := nI (2 ^ k)) dX0_countOrders_108 rfl (by rw [nI_and, eD]) ?_
              refine ex_if_ne (q := 132) (q2 := 112) dX0_countOrders_109 rfl rfl (fun _ => ?_) (fun hh => absurd (fun zz => absurd ((nI_eq (a := 2 ^ k) (b := 0) (by omega) (by decide)).mp zz) (by omega)) hh)
              exact hz
            · have eD : out &&& 2 ^ k = 0 := by rw [and_2, if_neg cD]
              have cE : tn_am T k (base ||| c) du = du k := by
                unfold co at cC
                rw [show out.testBit k = false by simpa using cD, Bool.false_or] at cC
                exact of_decide_eq_true cC
              have eT : tn_am T k (base ||| c) (fun q => qm_rF σ1 21 q) = tn_am T k (base ||| c) du := tn_am_cong hL hdu
              refine ex_iload dX0_countOrders_61 rfl rfl ?_
              refine ex_aload_n dX0_countOrders_63 rfl rfl ?_
              refine ex_getI (s := 9) (x := nI (tn_L T)) dX0_countOrders_64 rfl qp_0_22 rfl rfl (h.1) ?_
              refine ex_icmp_ge (q := 170) (q2 := 70) dX0_countOrders_67 rfl rfl (fun hh => absurd hh (nI_ge (a := k) (b := (tn_L T)) (by omega) (by omega))) (fun _ => ?_)
              refine ex_iconst (x := 1) dX0_countOrders_70 rfl rfl ?_
              refine ex_iload dX0_countOrders_71 rfl rfl ?_
              refine ex_ishl (z := nI (2 ^ k)) dX0_countOrders_73 rfl (nI_1shl (by omega)) ?_
              refine ex_istore (ls' := [some (.ref 51), some (.ref 22), some (.int (nI base)), some (.int (nI rest)), some (.ref 26), some (.int (nI out)), some (.int (nI c)), some (.int (nI k)), some (.int (nI (2 ^ k)))]) dX0_countOrders_74 rfl (Nat.le_of_ble_eq_true rfl) rfl rfl ?_
              refine ex_aload_n dX0_countOrders_76 rfl rfl ?_
              refine ex_getI (s := 25) (x := nI rest) dX0_countOrders_77 rfl qp_0_18 rfl rfl (h25) ?_
              refine ex_iload dX0_countOrders_80 rfl rfl ?_
              refine ex_iconst (x := (-1)) dX0_countOrders_82 rfl rfl ?_
              refine ex_ixor (z := (nI c) ^^^ (-1)) dX0_countOrders_83 rfl (rfl) ?_
              refine ex_iand (z := nI (sd rest c)) dX0_countOrders_84 rfl (sd_nI hr7 hc) ?_
              refine ex_iload dX0_countOrders_85 rfl rfl ?_
              refine ex_iand (z := nI (2 ^ k)) dX0_countOrders_87 rfl (by rw [nI_and, eA]) ?_
              refine ex_if_eq (q := 164) (q2 := 91) dX0_countOrders_88 rfl rfl (fun hh => absurd hh (fun zz => absurd ((nI_eq (a := 2 ^ k) (b := 0) (by omega) (by decide)).mp zz) (by omega))) (fun _ => ?_)
              refine ex_aload_n dX0_countOrders_91 rfl rfl ?_
              refine ex_getR (b := 52) dX0_countOrders_92 rfl qp_0_11 rfl rfl ?_
              refine ex_iload dX0_countOrders_95 rfl rfl ?_
              refine ex_iload dX0_countOrders_97 rfl rfl ?_
              refine ex_ior (z := nI (c ||| (2 ^ k))) dX0_countOrders_99 rfl (nI_or _ _) ?_
              refine ex_iaload (k := c ||| (2 ^ k)) (x := nI (wv (co T base out du) (tn_L T) rest (c ||| 2 ^ k))) dX0_countOrders_100 rfl rfl (rfl) (by omega) (by decide) ((by rw [(hF (c ||| 2 ^ k) hgt hor).1, wW, if_pos hsb])) ?_
              refine ex_if_le (q := 164) (q2 := 104) dX0_countOrders_101 rfl rfl (fun hh => absurd hh (fun zz => absurd ((nI_leI (b := 0) (by omega) (by decide)).mp zz) (by omega))) (fun _ => ?_)
              refine ex_iload dX0_countOrders_104 rfl rfl ?_
              refine ex_iload dX0_countOrders_106 rfl rfl ?_
              refine ex_iand (z := nI 0) dX0_countOrders_108 rfl (by rw [nI_and, eD]) ?_
              refine ex_if_ne (q := 132) (q2 := 112) dX0_countOrders_109 rfl rfl (fun hh => absurd hh (fun zz => zz rfl)) (fun _ => ?_)
              refine ex_aload_n dX0_countOrders_112 rfl rfl ?_
              refine ex_iload dX0_countOrders_113 rfl rfl ?_
              refine ex_iload_n dX0_countOrders_115 rfl rfl ?_
              refine ex_iload dX0_countOrders_116 rfl rfl ?_
              refine ex_ior (z := nI (base ||| c)) dX0_countOrders_118 rfl (nI_or _ _) ?_
              refine ex_aload dX0_countOrders_119 rfl rfl ?_
              refine ex_callV (a := 22) (rest := []) dX0_countOrders_121 rfl qp_0_27 rfl rfl rfl rfl rfl (Nat.le_of_ble_eq_true rfl) ((c_colourAmong_0 hT h (show k < tn_L T by omega) (Nat.or_lt_two_pow (n := 7) hb hc) (n := 7) (j := 21) rfl (by decide)).eq (by rw [eT]) rfl) (Nat.le_of_ble_eq_true rfl) ?_
              show Ex qm_lay _ mX0_countOrders 124 [some (.ref 51), some (.ref 22), some (.int (nI base)), some (.int (nI rest)), some (.ref 26), some (.int (nI out)), some (.int (nI c)), some (.int (nI k)), some (.int (nI (2 ^ k)))] [.int (tn_am T k (base ||| c) du)] σ1 _ _
              refine ex_aload dX0_countOrders_124 rfl rfl ?_
              refine ex_iload dX0_countOrders_126 rfl rfl ?_
              refine ex_iaload (k := k) (x := du k) dX0_countOrders_128 rfl rfl (rfl) (by omega) (by decide) ((hdu k (by omega))) ?_
              refine ex_icmp_ne (q := 164) (q2 := 132) dX0_countOrders_129 rfl rfl (fun hh => absurd hh (fun zz => zz cE)) (fun _ => ?_)
              exact hz
          obtain ⟨σ2, x2, hE, g1, g2, g3, g4⟩ := ih (k + 1) (acc + wv (co T base out du) (tn_L T) rest (c ||| 2 ^ k)) (nac ||| 2 ^ k) (some (.int (nI (2 ^ k)))) (qm_wF (qm_wF σ1 40 c (nI (acc + wv (co T base out du) (tn_L T) rest (c ||| 2 ^ k)))) 41 c (nI (nac ||| 2 ^ k))) (by omega) (h.sm hs1 (by omega) (by omega)) (by rw [hs1.1 _ (by omega)]; exact h25) (fun q hq => by rw [hs1.2 _ (by omega)]; exact hdu q hq) ((hF.set (by omega) _ _).set (by omega) _ _) (by rw [rF_ne (Or.inl (by decide)), rF_eq]) rF_eq
          refine ⟨σ2, x2, fun v τ hz => key v τ ?_, g1, ?_, ?_, hs1.tr g4⟩
          · refine ex_aload_n dX0_countOrders_132 rfl rfl ?_
            refine ex_getR (b := 52) dX0_countOrders_133 rfl qp_0_11 rfl rfl ?_
            refine ex_iload dX0_countOrders_136 rfl rfl ?_
            refine ex_dup2 dX0_countOrders_138 rfl rfl rfl ?_
            refine ex_iaload (k := c) (x := nI acc) dX0_countOrders_139 rfl rfl (rfl) (by omega) (by decide) (h40) ?_
            refine ex_aload_n dX0_countOrders_140 rfl rfl ?_
            refine ex_getR (b := 52) dX0_countOrders_141 rfl qp_0_11 rfl rfl ?_
            refine ex_iload dX0_countOrders_144 rfl rfl ?_
            refine ex_iload dX0_countOrders_146 rfl rfl ?_
            refine ex_ior (z := nI (c ||| (2 ^ k))) dX0_countOrders_148 rfl (nI_or _ _) ?_
            refine ex_iaload (k := c ||| (2 ^ k)) (x := nI (wv (co T base out du) (tn_L T) rest (c ||| 2 ^ k))) dX0_countOrders_149 rfl rfl (rfl) (by omega) (by decide) ((by rw [(hF (c ||| 2 ^ k) hgt hor).1, wW, if_pos hsb])) ?_
            refine ex_iadd (z := nI (acc + (wv (co T base out du) (tn_L T) rest (c ||| 2 ^ k)))) dX0_countOrders_150 rfl (nI_add acc (wv (co T base out du) (tn_L T) rest (c ||| 2 ^ k))) ?_
            refine ex_iastore (k := c) (σ' := qm_wF σ1 40 c (nI (acc + (wv (co T base out du) (tn_L T) rest (c ||| 2 ^ k))))) dX0_countOrders_151 rfl rfl (rfl) (by omega) (by decide) rfl ?_
            refine ex_aload_n dX0_countOrders_152 rfl rfl ?_
            refine ex_getR (b := 53) dX0_countOrders_153 rfl qp_0_15 rfl rfl ?_
            refine ex_iload dX0_countOrders_156 rfl rfl ?_
            refine ex_dup2 dX0_countOrders_158 rfl rfl rfl ?_
            refine ex_iaload (k := c) (x := nI nac) dX0_countOrders_159 rfl rfl (rfl) (by omega) (by decide) ((by rw [rF_ne (Or.inl (by decide))]; exact h41)) ?_
            refine ex_iload dX0_countOrders_160 rfl rfl ?_
            refine ex_ior (z := nI (nac ||| (2 ^ k))) dX0_countOrders_162 rfl (nI_or _ _) ?_
            refine ex_iastore (k := c) (σ' := qm_wF (qm_wF σ1 40 c (nI (acc + (wv (co T base out du) (tn_L T) rest (c ||| 2 ^ k))))) 41 c (nI (nac ||| (2 ^ k)))) dX0_countOrders_163 rfl rfl (rfl) (by omega) (by decide) rfl ?_
            refine ex_iinc (y := nI (k + 1)) (ls' := [some (.ref 51), some (.ref 22), some (.int (nI base)), some (.int (nI rest)), some (.ref 26), some (.int (nI out)), some (.int (nI c)), some (.int (nI (k + 1))), some (.int (nI (2 ^ k)))]) dX0_countOrders_164 rfl rfl rfl (nI_add k 1) rfl ?_
            refine ex_goto (q := 61) dX0_countOrders_167 rfl ?_
            exact hE v τ hz
          · rw [g2]; show _ = nI (acc + (wg (co T base out du) (tn_L T) rest c k + _)); rw [wg, eh, if_pos rfl, Nat.add_assoc]
          · rw [g3]; show _ = nI (nac ||| ((if hh (co T base out du) (tn_L T) rest c k = true then 2 ^ k else 0) ||| _)); rw [eh, if_pos rfl, Nat.or_assoc]
        · have cD : ¬ out.testBit k = true := fun z => cC (by unfold co; rw [z]; rfl)
          have cE : ¬ tn_am T k (base ||| c) du = du k := fun z => cC (by unfold co; rw [decide_eq_true z, Bool.or_true])
          have eT : tn_am T k (base ||| c) (fun q => qm_rF σ1 21 q) = tn_am T k (base ||| c) du := tn_am_cong hL hdu
          have eD : out &&& 2 ^ k = 0 := by rw [and_2, if_neg cD]
          have eh : hh (co T base out du) (tn_L T) rest c k = false := by
            unfold hh; rw [show (co T base out du) c k = false by simpa using cC, Bool.and_false, Bool.and_false]
          obtain ⟨σ2, x2, hE, g1, g2, g3, g4⟩ := ih (k + 1) acc nac (some (.int (nI (2 ^ k)))) σ1 (by omega) h h25 hdu hF h40 h41
          refine ⟨σ2, x2, fun v τ hz => ?_, g1, ?_, ?_, g4⟩
          · refine ex_iload dX0_countOrders_61 rfl rfl ?_
            refine ex_aload_n dX0_countOrders_63 rfl rfl ?_
            refine ex_getI (s := 9) (x := nI (tn_L T)) dX0_countOrders_64 rfl qp_0_22 rfl rfl (h.1) ?_
            refine ex_icmp_ge (q := 170) (q2 := 70) dX0_countOrders_67 rfl rfl (fun hh => absurd hh (nI_ge (a := k) (b := (tn_L T)) (by omega) (by omega))) (fun _ => ?_)
            refine ex_iconst (x := 1) dX0_countOrders_70 rfl rfl ?_
            refine ex_iload dX0_countOrders_71 rfl rfl ?_
            refine ex_ishl (z := nI (2 ^ k)) dX0_countOrders_73 rfl (nI_1shl (by omega)) ?_
            refine ex_istore (ls' := [some (.ref 51), some (.ref 22), some (.int (nI base)), some (.int (nI rest)), some (.ref 26), some (.int (nI out)), some (.int (nI c)), some (.int (nI k)), some (.int (nI (2 ^ k)))]) dX0_countOrders_74 rfl (Nat.le_of_ble_eq_true rfl) rfl rfl ?_
            refine ex_aload_n dX0_countOrders_76 rfl rfl ?_
            refine ex_getI (s := 25) (x := nI rest) dX0_countOrders_77 rfl qp_0_18 rfl rfl (h25) ?_
            refine ex_iload dX0_countOrders_80 rfl rfl ?_
            refine ex_iconst (x := (-1)) dX0_countOrders_82 rfl rfl ?_
            refine ex_ixor (z := (nI c) ^^^ (-1)) dX0_countOrders_83 rfl (rfl) ?_
            refine ex_iand (z := nI (sd rest c)) dX0_countOrders_84 rfl (sd_nI hr7 hc) ?_
            refine ex_iload dX0_countOrders_85 rfl rfl ?_
            refine ex_iand (z := nI (2 ^ k)) dX0_countOrders_87 rfl (by rw [nI_and, eA]) ?_
            refine ex_if_eq (q := 164) (q2 := 91) dX0_countOrders_88 rfl rfl (fun hh => absurd hh (fun zz => absurd ((nI_eq (a := 2 ^ k) (b := 0) (by omega) (by decide)).mp zz) (by omega))) (fun _ => ?_)
            refine ex_aload_n dX0_countOrders_91 rfl rfl ?_
            refine ex_getR (b := 52) dX0_countOrders_92 rfl qp_0_11 rfl rfl ?_
            refine ex_iload dX0_countOrders_95 rfl rfl ?_
            refine ex_iload dX0_countOrders_97 rfl rfl ?_
            refine ex_ior (z := nI (c ||| (2 ^ k))) dX0_countOrders_99 rfl (nI_or _ _) ?_
            refine ex_iaload (k := c ||| (2 ^ k)) (x := nI (wv (co T base out du) (tn_L T) rest (c ||| 2 ^ k))) dX0_countOrders_100 rfl rfl (rfl) (by omega) (by decide) ((by rw [(hF (c ||| 2 ^ k) hgt hor).1, wW, if_pos hsb])) ?_
            refine ex_if_le (q := 164) (q2 := 104) dX0_countOrders_101 rfl rfl (fun hh => absurd hh (fun zz => absurd ((nI_leI (b := 0) (by omega) (by decide)).mp zz) (by omega))) (fun _ => ?_)
            refine ex_iload dX0_countOrders_104 rfl rfl ?_
            refine ex_iload dX0_countOrders_106 rfl rfl ?_
            refine ex_iand (z := nI 0) dX0_countOrders_108 rfl (by rw [nI_and, eD]) ?_
            refine ex_if_ne (q := 132) (q2 := 112) dX0_countOrders_109 rfl rfl (fun hh => absurd hh (fun zz => zz rfl)) (fun _ => ?_)
            refine ex_aload_n dX0_countOrders_112 rfl rfl ?_
            refine ex_iload dX0_countOrders_113 rfl rfl ?_
            refine ex_iload_n dX0_countOrders_115 rfl rfl ?_
            refine ex_iload dX0_countOrders_116 rfl rfl ?_
            refine ex_ior (z := nI (base ||| c)) dX0_countOrders_118 rfl (nI_or _ _) ?_
            refine ex_aload dX0_countOrders_119 rfl rfl ?_
            refine ex_callV (a := 22) (rest := []) dX0_countOrders_121 rfl qp_0_27 rfl rfl rfl rfl rfl (Nat.le_of_ble_eq_true rfl) ((c_colourAmong_0 hT h (show k < tn_L T by omega) (Nat.or_lt_two_pow (n := 7) hb hc) (n := 7) (j := 21) rfl (by decide)).eq (by rw [eT]) rfl) (Nat.le_of_ble_eq_true rfl) ?_
            show Ex qm_lay _ mX0_countOrders 124 [some (.ref 51), some (.ref 22), some (.int (nI base)), some (.int (nI rest)), some (.ref 26), some (.int (nI out)), some (.int (nI c)), some (.int (nI k)), some (.int (nI (2 ^ k)))] [.int (tn_am T k (base ||| c) du)] σ1 _ _
            refine ex_aload dX0_countOrders_124 rfl rfl ?_
            refine ex_iload dX0_countOrders_126 rfl rfl ?_
            refine ex_iaload (k := k) (x := du k) dX0_countOrders_128 rfl rfl (rfl) (by omega) (by decide) ((hdu k (by omega))) ?_
            refine ex_icmp_ne (q := 164) (q2 := 132) dX0_countOrders_129 rfl rfl (fun _ => ?_) (fun hh => absurd (cE) hh)
            refine ex_iinc (y := nI (k + 1)) (ls' := [some (.ref 51), some (.ref 22), some (.int (nI base)), some (.int (nI rest)), some (.ref 26), some (.int (nI out)), some (.int (nI c)), some (.int (nI (k + 1))), some (.int (nI (2 ^ k)))]) dX0_countOrders_164 rfl rfl rfl (nI_add k 1) rfl ?_
            refine ex_goto (q := 61) dX0_countOrders_167 rfl ?_
            exact hE v τ hz
          · rw [g2]; show _ = nI (acc + (wg (co T base out du) (tn_L T) rest c k + _)); rw [wg, eh, if_neg (by decide), Nat.zero_add]
          · rw [g3]; show _ = nI (nac ||| ((if hh (co T base out du) (tn_L T) rest c k = true then 2 ^ k else 0) ||| _)); rw [eh, if_neg (by decide), Nat.zero_or]
      · have eB : wv (co T base out du) (tn_L T) rest (c ||| 2 ^ k) = 0 := by omega
        have eh : hh (co T base out du) (tn_L T) rest c k = false := by
          unfold hh; rw [decide_eq_false cB, Bool.false_and, Bool.and_false]
        obtain ⟨σ2, x2, hE, g1, g2, g3, g4⟩ := ih (k + 1) acc nac (some (.int (nI (2 ^ k)))) σ1 (by omega) h h25 hdu hF h40 h41
        refine ⟨σ2, x2, fun v τ hz => ?_, g1, ?_, ?_, g4⟩
        · refine ex_iload dX0_countOrders_61 rfl rfl ?_
          refine ex_aload_n dX0_countOrders_63 rfl rfl ?_
          refine ex_getI (s := 9) (x := nI (tn_L T)) dX0_countOrders_64 rfl qp_0_22 rfl rfl (h.1) ?_
          refine ex_icmp_ge (q := 170) (q2 := 70) dX0_countOrders_67 rfl rfl (fun hh => absurd hh (nI_ge (a := k) (b := (tn_L T)) (by omega) (by omega))) (fun _ => ?_)
          refine ex_iconst (x := 1) dX0_countOrders_70 rfl rfl ?_
          refine ex_iload dX0_countOrders_71 rfl rfl ?_
          refine ex_ishl (z := nI (2 ^ k)) dX0_countOrders_73 rfl (nI_1shl (by omega)) ?_
          refine ex_istore (ls' := [some (.ref 51), some (.ref 22), some (.int (nI base)), some (.int (nI rest)), some (.ref 26), some (.int (nI out)), some (.int (nI c)), some (.int (nI k)), some (.int (nI (2 ^ k)))]) dX0_countOrders_74 rfl (Nat.le_of_ble_eq_true rfl) rfl rfl ?_
          refine ex_aload_n dX0_countOrders_76 rfl rfl ?_
          refine ex_getI (s := 25) (x := nI rest) dX0_countOrders_77 rfl qp_0_18 rfl rfl (h25) ?_
          refine ex_iload dX0_countOrders_80 rfl rfl ?_
          refine ex_iconst (x := (-1)) dX0_countOrders_82 rfl rfl ?_
          refine ex_ixor (z := (nI c) ^^^ (-1)) dX0_countOrders_83 rfl (rfl) ?_
          refine ex_iand (z := nI (sd rest c)) dX0_countOrders_84 rfl (sd_nI hr7 hc) ?_
          refine ex_iload dX0_countOrders_85 rfl rfl ?_
          refine ex_iand (z := nI (2 ^ k)) dX0_countOrders_87 rfl (by rw [nI_and, eA]) ?_
          refine ex_if_eq (q := 164) (q2 := 91) dX0_countOrders_88 rfl rfl (fun hh => absurd hh (fun zz => absurd ((nI_eq (a := 2 ^ k) (b := 0) (by omega) (by decide)).mp zz) (by omega))) (fun _ => ?_)
          refine ex_aload_n dX0_countOrders_91 rfl rfl ?_
          refine ex_getR (b := 52) dX0_countOrders_92 rfl qp_0_11 rfl rfl ?_
          refine ex_iload dX0_countOrders_95 rfl rfl ?_
          refine ex_iload dX0_countOrders_97 rfl rfl ?_
          refine ex_ior (z := nI (c ||| (2 ^ k))) dX0_countOrders_99 rfl (nI_or _ _) ?_
          refine ex_iaload (k := c ||| (2 ^ k)) (x := nI (wv (co T base out du) (tn_L T) rest (c ||| 2 ^ k))) dX0_countOrders_100 rfl rfl (rfl) (by omega) (by decide) ((by rw [(hF (c ||| 2 ^ k) hgt hor).1, wW, if_pos hsb])) ?_
          refine ex_if_le (q := 164) (q2 := 104) dX0_countOrders_101 rfl rfl (fun _ => ?_) (fun hh => absurd (by rw [eB]; decide) hh)
          refine ex_iinc (y := nI (k + 1)) (ls' := [some (.ref 51), some (.ref 22), some (.int (nI base)), some (.int (nI rest)), some (.ref 26), some (.int (nI out)), some (.int (nI c)), some (.int (nI (k + 1))), some (.int (nI (2 ^ k)))]) dX0_countOrders_164 rfl rfl rfl (nI_add k 1) rfl ?_
          refine ex_goto (q := 61) dX0_countOrders_167 rfl ?_
          exact hE v τ hz
        · rw [g2]; show _ = nI (acc + (wg (co T base out du) (tn_L T) rest c k + _)); rw [wg, eh, if_neg (by decide), Nat.zero_add]
        · rw [g3]; show _ = nI (nac ||| ((if hh (co T base out du) (tn_L T) rest c k = true then 2 ^ k else 0) ||| _)); rw [eh, if_neg (by decide), Nat.zero_or]
    · rw [if_neg cA] at eA
      have eh : hh (co T base out du) (tn_L T) rest c k = false := by
        unfold hh; rw [show (sd rest c).testBit k = false by simpa using cA, Bool.false_and]
      obtain ⟨σ2, x2, hE, g1, g2, g3, g4⟩ := ih (k + 1) acc nac (some (.int (nI (2 ^ k)))) σ1 (by omega) h h25 hdu hF h40 h41
      refine ⟨σ2, x2, fun v τ hz => ?_, g1, ?_, ?_, g4⟩
      · refine ex_iload dX0_countOrders_61 rfl rfl ?_
        refine ex_aload_n dX0_countOrders_63 rfl rfl ?_
        refine ex_getI (s := 9) (x := nI (tn_L T)) dX0_countOrders_64 rfl qp_0_22 rfl rfl (h.1) ?_
        refine ex_icmp_ge (q := 170) (q2 := 70) dX0_countOrders_67 rfl rfl (fun hh => absurd hh (nI_ge (a := k) (b := (tn_L T)) (by omega) (by omega))) (fun _ => ?_)
        refine ex_iconst (x := 1) dX0_countOrders_70 rfl rfl ?_
        refine ex_iload dX0_countOrders_71 rfl rfl ?_
        refine ex_ishl (z := nI (2 ^ k)) dX0_countOrders_73 rfl (nI_1shl (by omega)) ?_
        refine ex_istore (ls' := [some (.ref 51), some (.ref 22), some (.int (nI base)), some (.int (nI rest)), some (.ref 26), some (.int (nI out)), some (.int (nI c)), some (.int (nI k)), some (.int (nI (2 ^ k)))]) dX0_countOrders_74 rfl (Nat.le_of_ble_eq_true rfl) rfl rfl ?_
        refine ex_aload_n dX0_countOrders_76 rfl rfl ?_
        refine ex_getI (s := 25) (x := nI rest) dX0_countOrders_77 rfl qp_0_18 rfl rfl (h25) ?_
        refine ex_iload dX0_countOrders_80 rfl rfl ?_
        refine ex_iconst (x := (-1)) dX0_countOrders_82 rfl rfl ?_
        refine ex_ixor (z := (nI c) ^^^ (-1)) dX0_countOrders_83 rfl (rfl) ?_
        refine ex_iand (z := nI (sd rest c)) dX0_countOrders_84 rfl (sd_nI hr7 hc) ?_
        refine ex_iload dX0_countOrders_85 rfl rfl ?_
        refine ex_iand (z := nI 0) dX0_countOrders_87 rfl (by rw [nI_and, eA]) ?_
        refine ex_if_eq (q := 164) (q2 := 91) dX0_countOrders_88 rfl rfl (fun _ => ?_) (fun hh => absurd (rfl) hh)
        refine ex_iinc (y := nI (k + 1)) (ls' := [some (.ref 51), some (.ref 22), some (.int (nI base)), some (.int (nI rest)), some (.ref 26), some (.int (nI out)), some (.int (nI c)), some (.int (nI (k + 1))), some (.int (nI (2 ^ k)))]) dX0_countOrders_164 rfl rfl rfl (nI_add k 1) rfl ?_
        refine ex_goto (q := 61) dX0_countOrders_167 rfl ?_
        exact hE v τ hz
      · rw [g2]; show _ = nI (acc + (wg (co T base out du) (tn_L T) rest c k + _)); rw [wg, eh, if_neg (by decide), Nat.zero_add]
      · rw [g3]; show _ = nI (nac ||| ((if hh (co T base out du) (tn_L T) rest c k = true then 2 ^ k else 0) ||| _)); rw [eh, if_neg (by decide), Nat.zero_or]

set_option maxRecDepth 8000 in
set_option maxHeartbeats 2000000 in
theorem l_cPb {T : tn_T} (hT : tn_ok T) {base out rest : Nat} (hb : base < 128) (ho : out < 128) (hr : rest < 2 ^ tn_L T) (du : Nat → Int32) : ∀ (c : Nat) (y z : Option Value) (hy : qm_free [none, none, none, none, none, none, none, y] 8 = true) (σ1 : qm_St), c ≤ 128 → TR σ1 9 18 T → qm_rI σ1 25 = nI rest → (∀ q, q < 7 → qm_rF σ1 21 q = du q) → FW σ1 (co T base out du) (tn_L T) rest c → ∃ σ', Ex qm_lay 6 mX0_countOrders 12 [some (.ref 51), some (.ref 22), some (.int (nI base)), some (.int (nI rest)), some (.ref 26), some (.int (nI out)), some (.int (nI c + (-1))), y, z] [] σ1 (some (.int (nI (wW (co T base out du) (tn_L T) rest 0)))) σ' ∧ FW σ' (co T base out du) (tn_L T) rest 0 ∧ qm_rI σ' 25 = nI rest ∧ sm σ1 σ' 25 25 40 42 := by
  have hL := hT.1
  have h128 : 2 ^ tn_L T ≤ 128 := Nat.pow_le_pow_right (n := 2) (by omega) hL
  have hr7 : rest < 128 := by omega
  intro c
  induction c with
  | zero =>
    intro y z hy σ1 hc h h25 hdu hF
    refine ⟨σ1, ?_, hF, h25, sm.rf _ _ _ _ _⟩
    refine ex_iload dX0_countOrders_12 rfl rfl ?_
    refine ex_if_lt (q := 176) (q2 := 17) dX0_countOrders_14 rfl rfl (fun _ => ?_) (fun hh => absurd (by decide) hh)
    refine ex_aload_n dX0_countOrders_176 rfl rfl ?_
    refine ex_getR (b := 52) dX0_countOrders_177 rfl qp_0_11 rfl rfl ?_
    refine ex_iconst (x := 0) dX0_countOrders_180 rfl rfl ?_
    refine ex_iaload (k := 0) (x := nI (wW (co T base out du) (tn_L T) rest 0)) dX0_countOrders_181 rfl rfl (rfl) (by omega) (by decide) ((hF 0 (Nat.le_refl 0) (by decide)).1) ?_
    exact ex_iret dX0_countOrders_182 rfl rfl rfl
  | succ c ih =>
    intro y z hy σ1 hc h h25 hdu hF
    have e0 : (sd c rest = 0) ↔ nI c &&& (nI rest ^^^ (-1)) = 0 := by
      rw [sd_nI (by omega) hr7]
      exact ⟨fun z => by rw [z]; rfl, fun z => (nI_eq (b := 0) (Nat.lt_trans (sd_lt (by omega) _) (by decide)) (by decide)).mp z⟩
    by_cases cq : c = rest
    · have hs1 : sm σ1 (qm_wF (qm_wF σ1 40 c 1) 41 c 0) 25 25 40 42 := ((sm.rf σ1 25 25 40 42).wF _ (by omega)).wF _ (by omega)
      have h1 := h.sm hs1 (by omega) (by omega)
      have h251 : qm_rI (qm_wF (qm_wF σ1 40 c 1) 41 c 0) 25 = nI rest := by rw [hs1.1 _ (by omega)]; exact h25
      have hdu1 : ∀ q, q < 7 → qm_rF (qm_wF (qm_wF σ1 40 c 1) 41 c 0) 21 q = du q := fun q hq => by rw [hs1.2 _ (by omega)]; exact hdu q hq
      have hF1 : FW (qm_wF (qm_wF σ1 40 c 1) 41 c 0) (co T base out du) (tn_L T) rest (c + 1) := (hF.set (by omega) _ _).set (by omega) _ _
      by_cases c2 : sd c rest = 0
      · obtain ⟨σ2, x2, hE, g1, g2, g3, g4⟩ := l_cOb hT hb ho hr du (c := c) (by omega) c2 (tn_L T) 0 1 0 z _ (by omega) h1 h251 hdu1 hF1 (by rw [rF_ne (Or.inl (by decide)), rF_eq]; rfl) rF_eq
        have e1 := (wv_rec (co T base out du) (tn_L T) rest hL hr (s := c) (by omega) c2).1
        rw [if_pos cq] at e1
        rw [← e1] at g2
        rw [Nat.zero_or] at g3
        have hF2 : FW σ2 (co T base out du) (tn_L T) rest c := fun i h1 h2 => by
          by_cases e : i = c
          · rw [e, g2, g3]
            refine ⟨rfl, ?_⟩
            rw [wN, if_pos c2]
          · exact g1 i (by omega) h2
        obtain ⟨σ', hE2, k1, k2, k3⟩ := ih (some (.int (nI (tn_L T)))) x2 rfl σ2 (by omega) (h1.sm g4 (by omega) (by omega)) (by rw [g4.1 _ (by omega)]; exact h251) (fun q hq => by rw [g4.2 _ (by omega)]; exact hdu1 q hq) hF2
        refine ⟨σ', ?_, k1, k2, hs1.tr (g4.tr k3)⟩
        refine Ex.of_ls (ls' := [some (.ref 51), some (.ref 22), some (.int (nI base)), some (.int (nI rest)), some (.ref 26), some (.int (nI out)), some (.int (nI c)), y, z]) (by rw [pk_m1 c]) ?_
        refine ex_iload dX0_countOrders_12 rfl rfl ?_
        refine ex_if_lt (q := 176) (q2 := 17) dX0_countOrders_14 rfl rfl (fun hh => absurd hh (nI_pos (by omega))) (fun _ => ?_)
        refine ex_aload_n dX0_countOrders_17 rfl rfl ?_
        refine ex_getR (b := 52) dX0_countOrders_18 rfl qp_0_11 rfl rfl ?_
        refine ex_iload dX0_countOrders_21 rfl rfl ?_
        refine ex_iload dX0_countOrders_23 rfl rfl ?_
        refine ex_aload_n dX0_countOrders_25 rfl rfl ?_
        refine ex_getI (s := 25) (x := nI rest) dX0_countOrders_26 rfl qp_0_18 rfl rfl (h25) ?_
        refine ex_icmp_ne (q := 36) (q2 := 32) dX0_countOrders_29 rfl rfl (fun hh => absurd hh (fun zz => zz (congrArg nI cq))) (fun _ => ?_)
        refine ex_iconst (x := 1) dX0_countOrders_32 rfl rfl ?_
        refine ex_goto (q := 37) dX0_countOrders_33 rfl ?_
        refine ex_iastore (k := c) (σ' := qm_wF σ1 40 c 1) dX0_countOrders_37 rfl rfl (rfl) (by omega) (by decide) rfl ?_
        refine ex_aload_n dX0_countOrders_38 rfl rfl ?_
        refine ex_getR (b := 53) dX0_countOrders_39 rfl qp_0_15 rfl rfl ?_
        refine ex_iload dX0_countOrders_42 rfl rfl ?_
        refine ex_iconst (x := 0) dX0_countOrders_44 rfl rfl ?_
        refine ex_iastore (k := c) (σ' := qm_wF (qm_wF σ1 40 c 1) 41 c 0) dX0_countOrders_45 rfl rfl (rfl) (by omega) (by decide) rfl ?_
        refine ex_iload dX0_countOrders_46 rfl rfl ?_
        refine ex_aload_n dX0_countOrders_48 rfl rfl ?_
        refine ex_getI (s := 25) (x := nI rest) dX0_countOrders_49 rfl qp_0_18 rfl rfl (h25) ?_
        refine ex_iconst (x := (-1)) dX0_countOrders_52 rfl rfl ?_
        refine ex_ixor (z := nI rest ^^^ (-1)) dX0_countOrders_53 rfl (rfl) ?_
        refine ex_iand (z := nI c &&& (nI rest ^^^ (-1))) dX0_countOrders_54 rfl (rfl) ?_
        refine ex_if_ne (q := 170) (q2 := 58) dX0_countOrders_55 rfl rfl (fun hh => absurd hh (fun zz => zz (e0.mp c2))) (fun _ => ?_)
        refine ex_iconst (x := 0) dX0_countOrders_58 rfl rfl ?_
        refine ex_istore (ls' := [some (.ref 51), some (.ref 22), some (.int (nI base)), some (.int (nI rest)), some (.ref 26), some (.int (nI out)), some (.int (nI c)), some (.int 0), z]) dX0_countOrders_59 rfl (Nat.le_of_ble_eq_true rfl) rfl rfl ?_
        refine hE _ _ ?_
        refine ex_iinc (y := nI c + (-1)) (ls' := [some (.ref 51), some (.ref 22), some (.int (nI base)), some (.int (nI rest)), some (.ref 26), some (.int (nI out)), some (.int (nI c + (-1))), some (.int (nI (tn_L T))), x2]) dX0_countOrders_170 rfl rfl rfl (rfl) rfl ?_
        refine ex_goto (q := 12) dX0_countOrders_173 rfl ?_
        exact hE2
      · have hF2 : FW (qm_wF (qm_wF σ1 40 c 1) 41 c 0) (co T base out du) (tn_L T) rest c := fun i h1 h2 => by
          by_cases e : i = c
          · rw [e, rF_ne (Or.inl (by decide)), rF_eq, rF_eq]
            refine ⟨?_, ?_⟩
            · rw [wW, if_neg c2]; exact absurd (by rw [cq]; exact (sd_0 hr7 hr7).mpr (fun _ _ z => z)) c2
            · rw [wN, if_neg c2]; rfl
          · exact hF1 i (by omega) h2
        obtain ⟨σ', hE2, k1, k2, k3⟩ := ih y z hy _ (by omega) h1 h251 hdu1 hF2
        refine ⟨σ', ?_, k1, k2, hs1.tr k3⟩
        refine Ex.of_ls (ls' := [some (.ref 51), some (.ref 22), some (.int (nI base)), some (.int (nI rest)), some (.ref 26), some (.int (nI out)), some (.int (nI c)), y, z]) (by rw [pk_m1 c]) ?_
        refine ex_iload dX0_countOrders_12 rfl rfl ?_
        refine ex_if_lt (q := 176) (q2 := 17) dX0_countOrders_14 rfl rfl (fun hh => absurd hh (nI_pos (by omega))) (fun _ => ?_)
        refine ex_aload_n dX0_countOrders_17 rfl rfl ?_
        refine ex_getR (b := 52) dX0_countOrders_18 rfl qp_0_11 rfl rfl ?_
        refine ex_iload dX0_countOrders_21 rfl rfl ?_
        refine ex_iload dX0_countOrders_23 rfl rfl ?_
        refine ex_aload_n dX0_countOrders_25 rfl rfl ?_
        refine ex_getI (s := 25) (x := nI rest) dX0_countOrders_26 rfl qp_0_18 rfl rfl (h25) ?_
        refine ex_icmp_ne (q := 36) (q2 := 32) dX0_countOrders_29 rfl rfl (fun hh => absurd hh (fun zz => zz (congrArg nI cq))) (fun _ => ?_)
        refine ex_iconst (x := 1) dX0_countOrders_32 rfl rfl ?_
        refine ex_goto (q := 37) dX0_countOrders_33 rfl ?_
        refine ex_iastore (k := c) (σ' := qm_wF σ1 40 c 1) dX0_countOrders_37 rfl rfl (rfl) (by omega) (by decide) rfl ?_
        refine ex_aload_n dX0_countOrders_38 rfl rfl ?_
        refine ex_getR (b := 53) dX0_countOrders_39 rfl qp_0_15 rfl rfl ?_
        refine ex_iload dX0_countOrders_42 rfl rfl ?_
        refine ex_iconst (x := 0) dX0_countOrders_44 rfl rfl ?_
        refine ex_iastore (k := c) (σ' := qm_wF (qm_wF σ1 40 c 1) 41 c 0) dX0_countOrders_45 rfl rfl (rfl) (by omega) (by decide) rfl ?_
        refine ex_iload dX0_countOrders_46 rfl rfl ?_
        refine ex_aload_n dX0_countOrders_48 rfl rfl ?_
        refine ex_getI (s := 25) (x := nI rest) dX0_countOrders_49 rfl qp_0_18 rfl rfl (h25) ?_
        refine ex_iconst (x := (-1)) dX0_countOrders_52 rfl rfl ?_
        refine ex_ixor (z := nI rest ^^^ (-1)) dX0_countOrders_53 rfl (rfl) ?_
        refine ex_iand (z := nI c &&& (nI rest ^^^ (-1))) dX0_countOrders_54 rfl (rfl) ?_
        refine ex_if_ne (q := 170) (q2 := 58) dX0_countOrders_55 rfl rfl (fun _ => ?_) (fun hh => absurd (fun zz => c2 (e0.mpr zz)) hh)
        refine ex_iinc (y := nI c + (-1)) (ls' := [some (.ref 51), some (.ref 22), some (.int (nI base)), some (.int (nI rest)), some (.ref 26), some (.int (nI out)), some (.int (nI c + (-1))), y, z]) dX0_countOrders_170 rfl rfl rfl (rfl) rfl ?_
        refine ex_goto (q := 12) dX0_countOrders_173 rfl ?_
        exact hE2
    · have hs1 : sm σ1 (qm_wF (qm_wF σ1 40 c 0) 41 c 0) 25 25 40 42 := ((sm.rf σ1 25 25 40 42).wF _ (by omega)).wF _ (by omega)
      have h1 := h.sm hs1 (by omega) (by omega)
      have h251 : qm_rI (qm_wF (qm_wF σ1 40 c 0) 41 c 0) 25 = nI rest := by rw [hs1.1 _ (by omega)]; exact h25
      have hdu1 : ∀ q, q < 7 → qm_rF (qm_wF (qm_wF σ1 40 c 0) 41 c 0) 21 q = du q := fun q hq => by rw [hs1.2 _ (by omega)]; exact hdu q hq
      have hF1 : FW (qm_wF (qm_wF σ1 40 c 0) 41 c 0) (co T base out du) (tn_L T) rest (c + 1) := (hF.set (by omega) _ _).set (by omega) _ _
      by_cases c2 : sd c rest = 0
      · obtain ⟨σ2, x2, hE, g1, g2, g3, g4⟩ := l_cOb hT hb ho hr du (c := c) (by omega) c2 (tn_L T) 0 0 0 z _ (by omega) h1 h251 hdu1 hF1 (by rw [rF_ne (Or.inl (by decide)), rF_eq]; rfl) rF_eq
        have e1 := (wv_rec (co T base out du) (tn_L T) rest hL hr (s := c) (by omega) c2).1
        rw [if_neg cq] at e1
        rw [← e1] at g2
        rw [Nat.zero_or] at g3
        have hF2 : FW σ2 (co T base out du) (tn_L T) rest c := fun i h1 h2 => by
          by_cases e : i = c
          · rw [e, g2, g3]
            refine ⟨rfl, ?_⟩
            rw [wN, if_pos c2]
          · exact g1 i (by omega) h2
        obtain ⟨σ', hE2, k1, k2, k3⟩ := ih (some (.int (nI (tn_L T)))) x2 rfl σ2 (by omega) (h1.sm g4 (by omega) (by omega)) (by rw [g4.1 _ (by omega)]; exact h251) (fun q hq => by rw [g4.2 _ (by omega)]; exact hdu1 q hq) hF2
        refine ⟨σ', ?_, k1, k2, hs1.tr (g4.tr k3)⟩
        refine Ex.of_ls (ls' := [some (.ref 51), some (.ref 22), some (.int (nI base)), some (.int (nI rest)), some (.ref 26), some (.int (nI out)), some (.int (nI c)), y, z]) (by rw [pk_m1 c]) ?_
        refine ex_iload dX0_countOrders_12 rfl rfl ?_
        refine ex_if_lt (q := 176) (q2 := 17) dX0_countOrders_14 rfl rfl (fun hh => absurd hh (nI_pos (by omega))) (fun _ => ?_)
        refine ex_aload_n dX0_countOrders_17 rfl rfl ?_
        refine ex_getR (b := 52) dX0_countOrders_18 rfl qp_0_11 rfl rfl ?_
        refine ex_iload dX0_countOrders_21 rfl rfl ?_
        refine ex_iload dX0_countOrders_23 rfl rfl ?_
        refine ex_aload_n dX0_countOrders_25 rfl rfl ?_
        refine ex_getI (s := 25) (x := nI rest) dX0_countOrders_26 rfl qp_0_18 rfl rfl (h25) ?_
        refine ex_icmp_ne (q := 36) (q2 := 32) dX0_countOrders_29 rfl rfl (fun _ => ?_) (fun hh => absurd (fun zz => absurd ((nI_eq (by omega) (by omega)).mp zz) cq) hh)
        refine ex_iconst (x := 0) dX0_countOrders_36 rfl rfl ?_
        refine ex_iastore (k := c) (σ' := qm_wF σ1 40 c 0) dX0_countOrders_37 rfl rfl (rfl) (by omega) (by decide) rfl ?_
        refine ex_aload_n dX0_countOrders_38 rfl rfl ?_
        refine ex_getR (b := 53) dX0_countOrders_39 rfl qp_0_15 rfl rfl ?_
        refine ex_iload dX0_countOrders_42 rfl rfl ?_
        refine ex_iconst (x := 0) dX0_countOrders_44 rfl rfl ?_
        refine ex_iastore (k := c) (σ' := qm_wF (qm_wF σ1 40 c 0) 41 c 0) dX0_countOrders_45 rfl rfl (rfl) (by omega) (by decide) rfl ?_
        refine ex_iload dX0_countOrders_46 rfl rfl ?_
        refine ex_aload_n dX0_countOrders_48 rfl rfl ?_
        refine ex_getI (s := 25) (x := nI rest) dX0_countOrders_49 rfl qp_0_18 rfl rfl (h25) ?_
        refine ex_iconst (x := (-1)) dX0_countOrders_52 rfl rfl ?_
        refine ex_ixor (z := nI rest ^^^ (-1)) dX0_countOrders_53 rfl (rfl) ?_
        refine ex_iand (z := nI c &&& (nI rest ^^^ (-1))) dX0_countOrders_54 rfl (rfl) ?_
        refine ex_if_ne (q := 170) (q2 := 58) dX0_countOrders_55 rfl rfl (fun hh => absurd hh (fun zz => zz (e0.mp c2))) (fun _ => ?_)
        refine ex_iconst (x := 0) dX0_countOrders_58 rfl rfl ?_
        refine ex_istore (ls' := [some (.ref 51), some (.ref 22), some (.int (nI base)), some (.int (nI rest)), some (.ref 26), some (.int (nI out)), some (.int (nI c)), some (.int 0), z]) dX0_countOrders_59 rfl (Nat.le_of_ble_eq_true rfl) rfl rfl ?_
        refine hE _ _ ?_
        refine ex_iinc (y := nI c + (-1)) (ls' := [some (.ref 51), some (.ref 22), some (.int (nI base)), some (.int (nI rest)), some (.ref 26), some (.int (nI out)), some (.int (nI c + (-1))), some (.int (nI (tn_L T))), x2]) dX0_countOrders_170 rfl rfl rfl (rfl) rfl ?_
        refine ex_goto (q := 12) dX0_countOrders_173 rfl ?_
        exact hE2
      · have hF2 : FW (qm_wF (qm_wF σ1 40 c 0) 41 c 0) (co T base out du) (tn_L T) rest c := fun i h1 h2 => by
          by_cases e : i = c
          · rw [e, rF_ne (Or.inl (by decide)), rF_eq, rF_eq]
            refine ⟨?_, ?_⟩
            · rw [wW, if_neg c2]; rfl
            · rw [wN, if_neg c2]; rfl
          · exact hF1 i (by omega) h2
        obtain ⟨σ', hE2, k1, k2, k3⟩ := ih y z hy _ (by omega) h1 h251 hdu1 hF2
        refine ⟨σ', ?_, k1, k2, hs1.tr k3⟩
        refine Ex.of_ls (ls' := [some (.ref 51), some (.ref 22), some (.int (nI base)), some (.int (nI rest)), some (.ref 26), some (.int (nI out)), some (.int (nI c)), y, z]) (by rw [pk_m1 c]) ?_
        refine ex_iload dX0_countOrders_12 rfl rfl ?_
        refine ex_if_lt (q := 176) (q2 := 17) dX0_countOrders_14 rfl rfl (fun hh => absurd hh (nI_pos (by omega))) (fun _ => ?_)
        refine ex_aload_n dX0_countOrders_17 rfl rfl ?_
        refine ex_getR (b := 52) dX0_countOrders_18 rfl qp_0_11 rfl rfl ?_
        refine ex_iload dX0_countOrders_21 rfl rfl ?_
        refine ex_iload dX0_countOrders_23 rfl rfl ?_
        refine ex_aload_n dX0_countOrders_25 rfl rfl ?_
        refine ex_getI (s := 25) (x := nI rest) dX0_countOrders_26 rfl qp_0_18 rfl rfl (h25) ?_
        refine ex_icmp_ne (q := 36) (q2 := 32) dX0_countOrders_29 rfl rfl (fun _ => ?_) (fun hh => absurd (fun zz => absurd ((nI_eq (by omega) (by omega)).mp zz) cq) hh)
        refine ex_iconst (x := 0) dX0_countOrders_36 rfl rfl ?_
        refine ex_iastore (k := c) (σ' := qm_wF σ1 40 c 0) dX0_countOrders_37 rfl rfl (rfl) (by omega) (by decide) rfl ?_
        refine ex_aload_n dX0_countOrders_38 rfl rfl ?_
        refine ex_getR (b := 53) dX0_countOrders_39 rfl qp_0_15 rfl rfl ?_
        refine ex_iload dX0_countOrders_42 rfl rfl ?_
        refine ex_iconst (x := 0) dX0_countOrders_44 rfl rfl ?_
        refine ex_iastore (k := c) (σ' := qm_wF (qm_wF σ1 40 c 0) 41 c 0) dX0_countOrders_45 rfl rfl (rfl) (by omega) (by decide) rfl ?_
        refine ex_iload dX0_countOrders_46 rfl rfl ?_
        refine ex_aload_n dX0_countOrders_48 rfl rfl ?_
        refine ex_getI (s := 25) (x := nI rest) dX0_countOrders_49 rfl qp_0_18 rfl rfl (h25) ?_
        refine ex_iconst (x := (-1)) dX0_countOrders_52 rfl rfl ?_
        refine ex_ixor (z := nI rest ^^^ (-1)) dX0_countOrders_53 rfl (rfl) ?_
        refine ex_iand (z := nI c &&& (nI rest ^^^ (-1))) dX0_countOrders_54 rfl (rfl) ?_
        refine ex_if_ne (q := 170) (q2 := 58) dX0_countOrders_55 rfl rfl (fun _ => ?_) (fun hh => absurd (fun zz => c2 (e0.mpr zz)) hh)
        refine ex_iinc (y := nI c + (-1)) (ls' := [some (.ref 51), some (.ref 22), some (.int (nI base)), some (.int (nI rest)), some (.ref 26), some (.int (nI out)), some (.int (nI c + (-1))), y, z]) dX0_countOrders_170 rfl rfl rfl (rfl) rfl ?_
        refine ex_goto (q := 12) dX0_countOrders_173 rfl ?_
        exact hE2

set_option maxRecDepth 8000 in
set_option maxHeartbeats 2000000 in
theorem c_countOrders_b {T : tn_T} (hT : tn_ok T) {base out rest : Nat} (hb : base < 128) (ho : out < 128) (hr : rest < 2 ^ tn_L T) (du : Nat → Int32) {σ : qm_St} (h : TR σ 9 18 T) (hdu : ∀ q, q < 7 → qm_rF σ 21 q = du q) : ∃ σ', Ok qm_lay 6 mX0_countOrders [.ref 51, .ref 22, .int (nI base), .int (nI rest), .ref 26, .int (nI out)] σ (some (.int (nI (wv (co T base out du) (tn_L T) rest 0)))) σ' ∧ FW σ' (co T base out du) (tn_L T) rest 0 ∧ qm_rI σ' 25 = nI rest ∧ sm σ σ' 25 26 40 42 := by
  have hL := hT.1
  have h128 : 2 ^ tn_L T ≤ 128 := Nat.pow_le_pow_right (n := 2) (by omega) hL
  have hr7 : rest < 128 := by omega
  have hs1 : sm σ (qm_wI σ 25 (nI rest)) 25 26 40 42 := (sm.rf σ 25 26 40 42).wI _ (by omega)
  obtain ⟨σ', hE, k1, k2, k3⟩ := l_cPb hT hb ho hr du 128 none none rfl (qm_wI σ 25 (nI rest)) (Nat.le_refl _) (h.sm hs1 (by omega) (by omega)) rfl (fun q hq => by rw [hs1.2 _ (by omega)]; exact hdu q hq) (fun i h1 h2 => by omega)
  rw [show wW (co T base out du) (tn_L T) rest 0 = wv (co T base out du) (tn_L T) rest 0 by rw [wW, if_pos (show sd 0 rest = 0 from Nat.zero_and _)]] at hE
  refine ⟨σ', ?_, k1, k2, hs1.tr (k3.wid (by omega) (by omega))⟩
  refine Ok.of (ls := [some (.ref 51), some (.ref 22), some (.int (nI base)), some (.int (nI rest)), some (.ref 26), some (.int (nI out)), none, none, none]) (Nat.le_of_ble_eq_true rfl) rfl ?_
  refine ex_aload_n dX0_countOrders_0 rfl rfl ?_
  refine ex_iload_n dX0_countOrders_1 rfl rfl ?_
  refine ex_bipush (x := 127) dX0_countOrders_2 rfl rfl ?_
  refine ex_iand (z := nI rest) dX0_countOrders_4 rfl (by rw [show (127 : Int32) = nI 127 from rfl, nI_and, and_127 _ hr7]) ?_
  refine ex_put (σ' := qm_wI σ 25 (nI rest)) dX0_countOrders_5 rfl qp_0_18 rfl rfl (Or.inl rfl) rfl ?_
  refine ex_bipush (x := 127) dX0_countOrders_8 rfl rfl ?_
  refine ex_istore (ls' := [some (.ref 51), some (.ref 22), some (.int (nI base)), some (.int (nI rest)), some (.ref 26), some (.int (nI out)), some (.int 127), none, none]) dX0_countOrders_10 rfl (Nat.le_of_ble_eq_true rfl) rfl rfl ?_
  exact hE

set_option maxRecDepth 8000 in
set_option maxHeartbeats 2000000 in
theorem l_cOp {T : tn_T} (hT : tn_ok T) {s : Nat} (hs4 : s < 4) {base out rest : Nat} (hb : base < 128) (ho : out < 128) (hr : rest < 2 ^ tn_L T) (du : Nat → Int32) {c : Nat} (hc : c < 128) (hsub : sd c rest = 0) : ∀ (r k acc nac : Nat) (x : Option Value) (σ1 : qm_St), k + r = tn_L T → TR σ1 9 18 T → qm_rI σ1 25 = nI rest → (∀ q, q < 7 → qm_rF σ1 (35 + s) q = du q) → FW σ1 (co T base out du) (tn_L T) rest (c + 1) → qm_rF σ1 40 c = nI acc → qm_rF σ1 41 c = nI nac → ∃ σ2 x2, (∀ v τ, Ex qm_lay 6 mX0_countOrders 170 [some (.ref 51), some (.ref 22), some (.int (nI base)), some (.int (nI rest)), some (.ref (44 + s)), some (.int (nI out)), some (.int (nI c)), some (.int (nI (tn_L T))), x2] [] σ2 v τ → Ex qm_lay 6 mX0_countOrders 61 [some (.ref 51), some (.ref 22), some (.int (nI base)), some (.int (nI rest)), some (.ref (44 + s)), some (.int (nI out)), some (.int (nI c)), some (.int (nI k)), x] [] σ1 v τ) ∧ FW σ2 (co T base out du) (tn_L T) rest (c + 1) ∧ qm_rF σ2 40 c = nI (acc + wl (wg (co T base out du) (tn_L T) rest c) r k) ∧ qm_rF σ2 41 c = nI (nac ||| nl (hh (co T base out du) (tn_L T) rest c) r k) ∧ sm σ1 σ2 25 25 40 42 := by
  have hL := hT.1
  have h128 : 2 ^ tn_L T ≤ 128 := Nat.pow_le_pow_right (n := 2) (by omega) hL
  have hr7 : rest < 128 := by omega
  intro r
  induction r with
  | zero =>
    intro k acc nac x σ1 hk h h25 hdu hF h40 h41
    have hkL : k = tn_L T := by omega
    subst hkL
    refine ⟨σ1, x, fun v τ hE => ?_, hF, by rw [h40]; rfl, by rw [h41, nl, Nat.or_zero], sm.rf _ _ _ _ _⟩
    refine ex_iload dX0_countOrders_61 rfl rfl ?_
    refine ex_aload_n dX0_countOrders_63 rfl rfl ?_
    refine ex_getI (s := 9) (x := nI (tn_L T)) dX0_countOrders_64 rfl qp_0_22 rfl rfl (h.1) ?_
    refine ex_icmp_ge (q := 170) (q2 := 70) dX0_countOrders_67 rfl rfl (fun _ => ?_) (fun hh => absurd (nI_le (a := (tn_L T)) (b := (tn_L T)) (by omega) (by omega)) hh)
    exact hE
  | succ r ih =>
    intro k acc nac x σ1 hk h h25 hdu hF h40 h41
    have hk7 : k < 7 := by omega
    have hL' := sd_lt hr7 c
    have eA := and_2 (sd rest c) k
    have hor := or_lt128 hc hk7
    by_cases cA : (sd rest c).testBit k = true
    · rw [if_pos cA] at eA
      have hp := Nat.two_pow_pos k
      have hp128 : 2 ^ k < 128 := Nat.pow_lt_pow_right (n := 7) (by omega) hk7
      have hcb : c.testBit k = false := by
        have z := cA
        rw [sd_tb hc hk7, Bool.and_eq_true] at z
        cases hz : c.testBit k with
        | false => rfl
        | true => rw [hz] at z; cases z.2
      have hgt := or_gt hcb
      have hsb := sd_sub hr7 hc hk7 hsub cA
      have hwl := wv_lt (co T base out du) (tn_L T) rest hL (c ||| 2 ^ k)
      by_cases cB : 0 < wv (co T base out du) (tn_L T) rest (c ||| 2 ^ k)
      · by_cases cC : (co T base out du) c k = true
        · have eh : hh (co T base out du) (tn_L T) rest c k = true := by unfold hh; rw [cA, decide_eq_true cB, cC]; rfl
          have hs1 : sm σ1 (qm_wF (qm_wF σ1 40 c (nI (acc + wv (co T base out du) (tn_L T) rest (c ||| 2 ^ k)))) 41 c (nI (nac ||| 2 ^ k))) 25 25 40 42 := ((sm.rf σ1 25 25 40 42).wF _ (by omega)).wF _ (by omega)
          have key : ∀ v τ, Ex qm_lay 6 mX0_countOrders 132 [some (.ref 51), some (.ref 22), some (.int (nI base)), some (.int (nI rest)), some (.ref (44 + s)), some (.int (nI out)), some (.int (nI c)), some (.int (nI k)), (some (.int (nI (2 ^ k))))] [] σ1 v τ → Ex qm_lay 6 mX0_countOrders 61 [some (.ref 51), some (.ref 22), some (.int (nI base)), some (.int (nI rest)), some (.ref (44 + s)), some (.int (nI out)), some (.int (nI c)), some (.int (nI k)), x] [] σ1 v τ := fun v τ hz => by
            by_cases cD : out.testBit k = true
            · have eD : out &&& 2 ^ k = 2 ^ k := by rw [and_2, if_pos cD]
              refine ex_iload dX0_countOrders_61 rfl rfl ?_
              refine ex_aload_n dX0_countOrders_63 rfl rfl ?_
              refine ex_getI (s := 9) (x := nI (tn_L T)) dX0_countOrders_64 rfl qp_0_22 rfl rfl (h.1) ?_
              refine ex_icmp_ge (q := 170) (q2 := 70) dX0_countOrders_67 rfl rfl (fun hh => absurd hh (nI_ge (a := k) (b := (tn_L T)) (by omega) (by omega))) (fun _ => ?_)
              refine ex_iconst (x := 1) dX0_countOrders_70 rfl rfl ?_
              refine ex_iload dX0_countOrders_71 rfl rfl ?_
              refine ex_ishl (z := nI (2 ^ k)) dX0_countOrders_73 rfl (nI_1shl (by omega)) ?_
              refine ex_istore (ls' := [some (.ref 51), some (.ref 22), some (.int (nI base)), some (.int (nI rest)), some (.ref (44 + s)), some (.int (nI out)), some (.int (nI c)), some (.int (nI k)), some (.int (nI (2 ^ k)))]) dX0_countOrders_74 rfl (Nat.le_of_ble_eq_true rfl) rfl rfl ?_
              refine ex_aload_n dX0_countOrders_76 rfl rfl ?_
              refine ex_getI (s := 25) (x := nI rest) dX0_countOrders_77 rfl qp_0_18 rfl rfl (h25) ?_
              refine ex_iload dX0_countOrders_80 rfl rfl ?_
              refine ex_iconst (x := (-1)) dX0_countOrders_82 rfl rfl ?_
              refine ex_ixor (z := (nI c) ^^^ (-1)) dX0_countOrders_83 rfl (rfl) ?_
              refine ex_iand (z := nI (sd rest c)) dX0_countOrders_84 rfl (sd_nI hr7 hc) ?_
              refine ex_iload dX0_countOrders_85 rfl rfl ?_
              refine ex_iand (z := nI (2 ^ k)) dX0_countOrders_87 rfl (by rw [nI_and, eA]) ?_
              refine ex_if_eq (q := 164) (q2 := 91) dX0_countOrders_88 rfl rfl (fun hh => absurd hh (fun zz => absurd ((nI_eq (a := 2 ^ k) (b := 0) (by omega) (by decide)).mp zz) (by omega))) (fun _ => ?_)
              refine ex_aload_n dX0_countOrders_91 rfl rfl ?_
              refine ex_getR (b := 52) dX0_countOrders_92 rfl qp_0_11 rfl rfl ?_
              refine ex_iload dX0_countOrders_95 rfl rfl ?_
              refine ex_iload dX0_countOrders_97 rfl rfl ?_
              refine ex_ior (z := nI (c ||| (2 ^ k))) dX0_countOrders_99 rfl (nI_or _ _) ?_
              refine ex_iaload (k := c ||| (2 ^ k)) (x := nI (wv (co T base out du) (tn_L T) rest (c ||| 2 ^ k))) dX0_countOrders_100 rfl rfl (rfl) (by omega) (by decide) ((by rw [(hF (c ||| 2 ^ k) hgt hor).1, wW, if_pos hsb])) ?_
              refine ex_if_le (q := 164) (q2 := 104) dX0_countOrders_101 rfl rfl (fun hh => absurd hh (fun zz => absurd ((nI_leI (b := 0) (by omega) (by decide)).mp zz) (by omega))) (fun _ => ?_)
              refine ex_iload dX0_countOrders_104 rfl rfl ?_
              refine ex_iload dX0_countOrders_106 rfl rfl ?_
              refine ex_iand (z := nI (2 ^ k)) dX0_countOrders_108 rfl (by rw [nI_and, eD]) ?_
              refine ex_if_ne (q := 132) (q2 := 112) dX0_countOrders_109 rfl rfl (fun _ => ?_) (fun hh => absurd (fun zz => absurd ((nI_eq (a := 2 ^ k) (b := 0) (by omega) (by decide)).mp zz) (by omega)) hh)
              exact hz
            · have eD : out &&& 2 ^ k = 0 := by rw [and_2, if_neg cD]
              have cE : tn_am T k (base ||| c) du = du k := by
                unfold co at cC
                rw [show out.testBit k = false by simpa using cD, Bool.false_or] at cC
                exact of_decide_eq_true cC
              have eT : tn_am T k (base ||| c) (fun q => qm_rF σ1 (35 + s) q) = tn_am T k (base ||| c) du := tn_am_cong hL hdu
              refine ex_iload dX0_countOrders_61 rfl rfl ?_
              refine ex_aload_n dX0_countOrders_63 rfl rfl ?_
              refine ex_getI (s := 9) (x := nI (tn_L T)) dX0_countOrders_64 rfl qp_0_22 rfl rfl (h.1) ?_
              refine ex_icmp_ge (q := 170) (q2 := 70) dX0_countOrders_67 rfl rfl (fun hh => absurd hh (nI_ge (a := k) (b := (tn_L T)) (by omega) (by omega))) (fun _ => ?_)
              refine ex_iconst (x := 1) dX0_countOrders_70 rfl rfl ?_
              refine ex_iload dX0_countOrders_71 rfl rfl ?_
              refine ex_ishl (z := nI (2 ^ k)) dX0_countOrders_73 rfl (nI_1shl (by omega)) ?_
              refine ex_istore (ls' := [some (.ref 51), some (.ref 22), some (.int (nI base)), some (.int (nI rest)), some (.ref (44 + s)), some (.int (nI out)), some (.int (nI c)), some (.int (nI k)), some (.int (nI (2 ^ k)))]) dX0_countOrders_74 rfl (Nat.le_of_ble_eq_true rfl) rfl rfl ?_
              refine ex_aload_n dX0_countOrders_76 rfl rfl ?_
              refine ex_getI (s := 25) (x := nI rest) dX0_countOrders_77 rfl qp_0_18 rfl rfl (h25) ?_
              refine ex_iload dX0_countOrders_80 rfl rfl ?_
              refine ex_iconst (x := (-1)) dX0_countOrders_82 rfl rfl ?_
              refine ex_ixor (z := (nI c) ^^^ (-1)) dX0_countOrders_83 rfl (rfl) ?_
              refine ex_iand (z := nI (sd rest c)) dX0_countOrders_84 rfl (sd_nI hr7 hc) ?_
              refine ex_iload dX0_countOrders_85 rfl rfl ?_
              refine ex_iand (z := nI (2 ^ k)) dX0_countOrders_87 rfl (by rw [nI_and, eA]) ?_
              refine ex_if_eq (q := 164) (q2 := 91) dX0_countOrders_88 rfl rfl (fun hh => absurd hh (fun zz => absurd ((nI_eq (a := 2 ^ k) (b := 0) (by omega) (by decide)).mp zz) (by omega))) (fun _ => ?_)
              refine ex_aload_n dX0_countOrders_91 rfl rfl ?_
              refine ex_getR (b := 52) dX0_countOrders_92 rfl qp_0_11 rfl rfl ?_
              refine ex_iload dX0_countOrders_95 rfl rfl ?_
              refine ex_iload dX0_countOrders_97 rfl rfl ?_
              refine ex_ior (z := nI (c ||| (2 ^ k))) dX0_countOrders_99 rfl (nI_or _ _) ?_
              refine ex_iaload (k := c ||| (2 ^ k)) (x := nI (wv (co T base out du) (tn_L T) rest (c ||| 2 ^ k))) dX0_countOrders_100 rfl rfl (rfl) (by omega) (by decide) ((by rw [(hF (c ||| 2 ^ k) hgt hor).1, wW, if_pos hsb])) ?_
              refine ex_if_le (q := 164) (q2 := 104) dX0_countOrders_101 rfl rfl (fun hh => absurd hh (fun zz => absurd ((nI_leI (b := 0) (by omega) (by decide)).mp zz) (by omega))) (fun _ => ?_)
              refine ex_iload dX0_countOrders_104 rfl rfl ?_
              refine ex_iload dX0_countOrders_106 rfl rfl ?_
              refine ex_iand (z := nI 0) dX0_countOrders_108 rfl (by rw [nI_and, eD]) ?_
              refine ex_if_ne (q := 132) (q2 := 112) dX0_countOrders_109 rfl rfl (fun hh => absurd hh (fun zz => zz rfl)) (fun _ => ?_)
              refine ex_aload_n dX0_countOrders_112 rfl rfl ?_
              refine ex_iload dX0_countOrders_113 rfl rfl ?_
              refine ex_iload_n dX0_countOrders_115 rfl rfl ?_
              refine ex_iload dX0_countOrders_116 rfl rfl ?_
              refine ex_ior (z := nI (base ||| c)) dX0_countOrders_118 rfl (nI_or _ _) ?_
              refine ex_aload dX0_countOrders_119 rfl rfl ?_
              refine ex_callV (a := 22) (rest := []) dX0_countOrders_121 rfl qp_0_27 rfl rfl rfl rfl rfl (Nat.le_of_ble_eq_true rfl) ((c_colourAmong_0 hT h (show k < tn_L T by omega) (Nat.or_lt_two_pow (n := 7) hb hc) (n := 40) (j := (35 + s)) (lay_sh hs4) (by decide)).eq (by rw [eT]) rfl) (Nat.le_of_ble_eq_true rfl) ?_
              show Ex qm_lay _ mX0_countOrders 124 [some (.ref 51), some (.ref 22), some (.int (nI base)), some (.int (nI rest)), some (.ref (44 + s)), some (.int (nI out)), some (.int (nI c)), some (.int (nI k)), some (.int (nI (2 ^ k)))] [.int (tn_am T k (base ||| c) du)] σ1 _ _
              refine ex_aload dX0_countOrders_124 rfl rfl ?_
              refine ex_iload dX0_countOrders_126 rfl rfl ?_
              refine ex_iaload (k := k) (x := du k) dX0_countOrders_128 rfl (lay_sh hs4) (rfl) (by omega) (by decide) ((hdu k (by omega))) ?_
              refine ex_icmp_ne (q := 164) (q2 := 132) dX0_countOrders_129 rfl rfl (fun hh => absurd hh (fun zz => zz cE)) (fun _ => ?_)
              exact hz
          obtain ⟨σ2, x2, hE, g1, g2, g3, g4⟩ := ih (k + 1) (acc + wv (co T base out du) (tn_L T) rest (c ||| 2 ^ k)) (nac ||| 2 ^ k) (some (.int (nI (2 ^ k)))) (qm_wF (qm_wF σ1 40 c (nI (acc + wv (co T base out du) (tn_L T) rest (c ||| 2 ^ k)))) 41 c (nI (nac ||| 2 ^ k))) (by omega) (h.sm hs1 (by omega) (by omega)) (by rw [hs1.1 _ (by omega)]; exact h25) (fun q hq => by rw [hs1.2 _ (by omega)]; exact hdu q hq) ((hF.set (by omega) _ _).set (by omega) _ _) (by rw [rF_ne (Or.inl (by decide)), rF_eq]) rF_eq
          refine ⟨σ2, x2, fun v τ hz => key v τ ?_, g1, ?_, ?_, hs1.tr g4⟩
          · refine ex_aload_n dX0_countOrders_132 rfl rfl ?_
            refine ex_getR (b := 52) dX0_countOrders_133 rfl qp_0_11 rfl rfl ?_
            refine ex_iload dX0_countOrders_136 rfl rfl ?_
            refine ex_dup2 dX0_countOrders_138 rfl rfl rfl ?_
            refine ex_iaload (k := c) (x := nI acc) dX0_countOrders_139 rfl rfl (rfl) (by omega) (by decide) (h40) ?_
            refine ex_aload_n dX0_countOrders_140 rfl rfl ?_
            refine ex_getR (b := 52) dX0_countOrders_141 rfl qp_0_11 rfl rfl ?_
            refine ex_iload dX0_countOrders_144 rfl rfl ?_
            refine ex_iload dX0_countOrders_146 rfl rfl ?_
            refine ex_ior (z := nI (c ||| (2 ^ k))) dX0_countOrders_148 rfl (nI_or _ _) ?_
            refine ex_iaload (k := c ||| (2 ^ k)) (x := nI (wv (co T base out du) (tn_L T) rest (c ||| 2 ^ k))) dX0_countOrders_149 rfl rfl (rfl) (by omega) (by decide) ((by rw [(hF (c ||| 2 ^ k) hgt hor).1, wW, if_pos hsb])) ?_
            refine ex_iadd (z := nI (acc + (wv (co T base out du) (tn_L T) rest (c ||| 2 ^ k)))) dX0_countOrders_150 rfl (nI_add acc (wv (co T base out du) (tn_L T) rest (c ||| 2 ^ k))) ?_
            refine ex_iastore (k := c) (σ' := qm_wF σ1 40 c (nI (acc + (wv (co T base out du) (tn_L T) rest (c ||| 2 ^ k))))) dX0_countOrders_151 rfl rfl (rfl) (by omega) (by decide) rfl ?_
            refine ex_aload_n dX0_countOrders_152 rfl rfl ?_
            refine ex_getR (b := 53) dX0_countOrders_153 rfl qp_0_15 rfl rfl ?_
            refine ex_iload dX0_countOrders_156 rfl rfl ?_
            refine ex_dup2 dX0_countOrders_158 rfl rfl rfl ?_
            refine ex_iaload (k := c) (x := nI nac) dX0_countOrders_159 rfl rfl (rfl) (by omega) (by decide) ((by rw [rF_ne (Or.inl (by decide))]; exact h41)) ?_
            refine ex_iload dX0_countOrders_160 rfl rfl ?_
            refine ex_ior (z := nI (nac ||| (2 ^ k))) dX0_countOrders_162 rfl (nI_or _ _) ?_
            refine ex_iastore (k := c) (σ' := qm_wF (qm_wF σ1 40 c (nI (acc + (wv (co T base out du) (tn_L T) rest (c ||| 2 ^ k))))) 41 c (nI (nac ||| (2 ^ k)))) dX0_countOrders_163 rfl rfl (rfl) (by omega) (by decide) rfl ?_
            refine ex_iinc (y := nI (k + 1)) (ls' := [some (.ref 51), some (.ref 22), some (.int (nI base)), some (.int (nI rest)), some (.ref (44 + s)), some (.int (nI out)), some (.int (nI c)), some (.int (nI (k + 1))), some (.int (nI (2 ^ k)))]) dX0_countOrders_164 rfl rfl rfl (nI_add k 1) rfl ?_
            refine ex_goto (q := 61) dX0_countOrders_167 rfl ?_
            exact hE v τ hz
          · rw [g2]; show _ = nI (acc + (wg (co T base out du) (tn_L T) rest c k + _)); rw [wg, eh, if_pos rfl, Nat.add_assoc]
          · rw [g3]; show _ = nI (nac ||| ((if hh (co T base out du) (tn_L T) rest c k = true then 2 ^ k else 0) ||| _)); rw [eh, if_pos rfl, Nat.or_assoc]
        · have cD : ¬ out.testBit k = true := fun z => cC (by unfold co; rw [z]; rfl)
          have cE : ¬ tn_am T k (base ||| c) du = du k := fun z => cC (by unfold co; rw [decide_eq_true z, Bool.or_true])
          have eT : tn_am T k (base ||| c) (fun q => qm_rF σ1 (35 + s) q) = tn_am T k (base ||| c) du := tn_am_cong hL hdu
          have eD : out &&& 2 ^ k = 0 := by rw [and_2, if_neg cD]
          have eh : hh (co T base out du) (tn_L T) rest c k = false := by
            unfold hh; rw [show (co T base out du) c k = false by simpa using cC, Bool.and_false, Bool.and_false]
          obtain ⟨σ2, x2, hE, g1, g2, g3, g4⟩ := ih (k + 1) acc nac (some (.int (nI (2 ^ k)))) σ1 (by omega) h h25 hdu hF h40 h41
          refine ⟨σ2, x2, fun v τ hz => ?_, g1, ?_, ?_, g4⟩
          · refine ex_iload dX0_countOrders_61 rfl rfl ?_
            refine ex_aload_n dX0_countOrders_63 rfl rfl ?_
            refine ex_getI (s := 9) (x := nI (tn_L T)) dX0_countOrders_64 rfl qp_0_22 rfl rfl (h.1) ?_
            refine ex_icmp_ge (q := 170) (q2 := 70) dX0_countOrders_67 rfl rfl (fun hh => absurd hh (nI_ge (a := k) (b := (tn_L T)) (by omega) (by omega))) (fun _ => ?_)
            refine ex_iconst (x := 1) dX0_countOrders_70 rfl rfl ?_
            refine ex_iload dX0_countOrders_71 rfl rfl ?_
            refine ex_ishl (z := nI (2 ^ k)) dX0_countOrders_73 rfl (nI_1shl (by omega)) ?_
            refine ex_istore (ls' := [some (.ref 51), some (.ref 22), some (.int (nI base)), some (.int (nI rest)), some (.ref (44 + s)), some (.int (nI out)), some (.int (nI c)), some (.int (nI k)), some (.int (nI (2 ^ k)))]) dX0_countOrders_74 rfl (Nat.le_of_ble_eq_true rfl) rfl rfl ?_
            refine ex_aload_n dX0_countOrders_76 rfl rfl ?_
            refine ex_getI (s := 25) (x := nI rest) dX0_countOrders_77 rfl qp_0_18 rfl rfl (h25) ?_
            refine ex_iload dX0_countOrders_80 rfl rfl ?_
            refine ex_iconst (x := (-1)) dX0_countOrders_82 rfl rfl ?_
            refine ex_ixor (z := (nI c) ^^^ (-1)) dX0_countOrders_83 rfl (rfl) ?_
            refine ex_iand (z := nI (sd rest c)) dX0_countOrders_84 rfl (sd_nI hr7 hc) ?_
            refine ex_iload dX0_countOrders_85 rfl rfl ?_
            refine ex_iand (z := nI (2 ^ k)) dX0_countOrders_87 rfl (by rw [nI_and, eA]) ?_
            refine ex_if_eq (q := 164) (q2 := 91) dX0_countOrders_88 rfl rfl (fun hh => absurd hh (fun zz => absurd ((nI_eq (a := 2 ^ k) (b := 0) (by omega) (by decide)).mp zz) (by omega))) (fun _ => ?_)
            refine ex_aload_n dX0_countOrders_91 rfl rfl ?_
            refine ex_getR (b := 52) dX0_countOrders_92 rfl qp_0_11 rfl rfl ?_
            refine ex_iload dX0_countOrders_95 rfl rfl ?_
            refine ex_iload dX0_countOrders_97 rfl rfl ?_
            refine ex_ior (z := nI (c ||| (2 ^ k))) dX0_countOrders_99 rfl (nI_or _ _) ?_
            refine ex_iaload (k := c ||| (2 ^ k)) (x := nI (wv (co T base out du) (tn_L T) rest (c ||| 2 ^ k))) dX0_countOrders_100 rfl rfl (rfl) (by omega) (by decide) ((by rw [(hF (c ||| 2 ^ k) hgt hor).1, wW, if_pos hsb])) ?_
            refine ex_if_le (q := 164) (q2 := 104) dX0_countOrders_101 rfl rfl (fun hh => absurd hh (fun zz => absurd ((nI_leI (b := 0) (by omega) (by decide)).mp zz) (by omega))) (fun _ => ?_)
            refine ex_iload dX0_countOrders_104 rfl rfl ?_
            refine ex_iload dX0_countOrders_106 rfl rfl ?_
            refine ex_iand (z := nI 0) dX0_countOrders_108 rfl (by rw [nI_and, eD]) ?_
            refine ex_if_ne (q := 132) (q2 := 112) dX0_countOrders_109 rfl rfl (fun hh => absurd hh (fun zz => zz rfl)) (fun _ => ?_)
            refine ex_aload_n dX0_countOrders_112 rfl rfl ?_
            refine ex_iload dX0_countOrders_113 rfl rfl ?_
            refine ex_iload_n dX0_countOrders_115 rfl rfl ?_
            refine ex_iload dX0_countOrders_116 rfl rfl ?_
            refine ex_ior (z := nI (base ||| c)) dX0_countOrders_118 rfl (nI_or _ _) ?_
            refine ex_aload dX0_countOrders_119 rfl rfl ?_
            refine ex_callV (a := 22) (rest := []) dX0_countOrders_121 rfl qp_0_27 rfl rfl rfl rfl rfl (Nat.le_of_ble_eq_true rfl) ((c_colourAmong_0 hT h (show k < tn_L T by omega) (Nat.or_lt_two_pow (n := 7) hb hc) (n := 40) (j := (35 + s)) (lay_sh hs4) (by decide)).eq (by rw [eT]) rfl) (Nat.le_of_ble_eq_true rfl) ?_
            show Ex qm_lay _ mX0_countOrders 124 [some (.ref 51), some (.ref 22), some (.int (nI base)), some (.int (nI rest)), some (.ref (44 + s)), some (.int (nI out)), some (.int (nI c)), some (.int (nI k)), some (.int (nI (2 ^ k)))] [.int (tn_am T k (base ||| c) du)] σ1 _ _
            refine ex_aload dX0_countOrders_124 rfl rfl ?_
            refine ex_iload dX0_countOrders_126 rfl rfl ?_
            refine ex_iaload (k := k) (x := du k) dX0_countOrders_128 rfl (lay_sh hs4) (rfl) (by omega) (by decide) ((hdu k (by omega))) ?_
            refine ex_icmp_ne (q := 164) (q2 := 132) dX0_countOrders_129 rfl rfl (fun _ => ?_) (fun hh => absurd (cE) hh)
            refine ex_iinc (y := nI (k + 1)) (ls' := [some (.ref 51), some (.ref 22), some (.int (nI base)), some (.int (nI rest)), some (.ref (44 + s)), some (.int (nI out)), some (.int (nI c)), some (.int (nI (k + 1))), some (.int (nI (2 ^ k)))]) dX0_countOrders_164 rfl rfl rfl (nI_add k 1) rfl ?_
            refine ex_goto (q := 61) dX0_countOrders_167 rfl ?_
            exact hE v τ hz
          · rw [g2]; show _ = nI (acc + (wg (co T base out du) (tn_L T) rest c k + _)); rw [wg, eh, if_neg (by decide), Nat.zero_add]
          · rw [g3]; show _ = nI (nac ||| ((if hh (co T base out du) (tn_L T) rest c k = true then 2 ^ k else 0) ||| _)); rw [eh, if_neg (by decide), Nat.zero_or]
      · have eB : wv (co T base out du) (tn_L T) rest (c ||| 2 ^ k) = 0 := by omega
        have eh : hh (co T base out du) (tn_L T) rest c k = false := by
          unfold hh; rw [decide_eq_false cB, Bool.false_and, Bool.and_false]
        obtain ⟨σ2, x2, hE, g1, g2, g3, g4⟩ := ih (k + 1) acc nac (some (.int (nI (2 ^ k)))) σ1 (by omega) h h25 hdu hF h40 h41
        refine ⟨σ2, x2, fun v τ hz => ?_, g1, ?_, ?_, g4⟩
        · refine ex_iload dX0_countOrders_61 rfl rfl ?_
          refine ex_aload_n dX0_countOrders_63 rfl rfl ?_
          refine ex_getI (s := 9) (x := nI (tn_L T)) dX0_countOrders_64 rfl qp_0_22 rfl rfl (h.1) ?_
          refine ex_icmp_ge (q := 170) (q2 := 70) dX0_countOrders_67 rfl rfl (fun hh => absurd hh (nI_ge (a := k) (b := (tn_L T)) (by omega) (by omega))) (fun _ => ?_)
          refine ex_iconst (x := 1) dX0_countOrders_70 rfl rfl ?_
          refine ex_iload dX0_countOrders_71 rfl rfl ?_
          refine ex_ishl (z := nI (2 ^ k)) dX0_countOrders_73 rfl (nI_1shl (by omega)) ?_
          refine ex_istore (ls' := [some (.ref 51), some (.ref 22), some (.int (nI base)), some (.int (nI rest)), some (.ref (44 + s)), some (.int (nI out)), some (.int (nI c)), some (.int (nI k)), some (.int (nI (2 ^ k)))]) dX0_countOrders_74 rfl (Nat.le_of_ble_eq_true rfl) rfl rfl ?_
          refine ex_aload_n dX0_countOrders_76 rfl rfl ?_
          refine ex_getI (s := 25) (x := nI rest) dX0_countOrders_77 rfl qp_0_18 rfl rfl (h25) ?_
          refine ex_iload dX0_countOrders_80 rfl rfl ?_
          refine ex_iconst (x := (-1)) dX0_countOrders_82 rfl rfl ?_
          refine ex_ixor (z := (nI c) ^^^ (-1)) dX0_countOrders_83 rfl (rfl) ?_
          refine ex_iand (z := nI (sd rest c)) dX0_countOrders_84 rfl (sd_nI hr7 hc) ?_
          refine ex_iload dX0_countOrders_85 rfl rfl ?_
          refine ex_iand (z := nI (2 ^ k)) dX0_countOrders_87 rfl (by rw [nI_and, eA]) ?_
          refine ex_if_eq (q := 164) (q2 := 91) dX0_countOrders_88 rfl rfl (fun hh => absurd hh (fun zz => absurd ((nI_eq (a := 2 ^ k) (b := 0) (by omega) (by decide)).mp zz) (by omega))) (fun _ => ?_)
          refine ex_aload_n dX0_countOrders_91 rfl rfl ?_
          refine ex_getR (b := 52) dX0_countOrders_92 rfl qp_0_11 rfl rfl ?_
          refine ex_iload dX0_countOrders_95 rfl rfl ?_
          refine ex_iload dX0_countOrders_97 rfl rfl ?_
          refine ex_ior (z := nI (c ||| (2 ^ k))) dX0_countOrders_99 rfl (nI_or _ _) ?_
          refine ex_iaload (k := c ||| (2 ^ k)) (x := nI (wv (co T base out du) (tn_L T) rest (c ||| 2 ^ k))) dX0_countOrders_100 rfl rfl (rfl) (by omega) (by decide) ((by rw [(hF (c ||| 2 ^ k) hgt hor).1, wW, if_pos hsb])) ?_
          refine ex_if_le (q := 164) (q2 := 104) dX0_countOrders_101 rfl rfl (fun _ => ?_) (fun hh => absurd (by rw [eB]; decide) hh)
          refine ex_iinc (y := nI (k + 1)) (ls' := [some (.ref 51), some (.ref 22), some (.int (nI base)), some (.int (nI rest)), some (.ref (44 + s)), some (.int (nI out)), some (.int (nI c)), some (.int (nI (k + 1))), some (.int (nI (2 ^ k)))]) dX0_countOrders_164 rfl rfl rfl (nI_add k 1) rfl ?_
          refine ex_goto (q := 61) dX0_countOrders_167 rfl ?_
          exact hE v τ hz
        · rw [g2]; show _ = nI (acc + (wg (co T base out du) (tn_L T) rest c k + _)); rw [wg, eh, if_neg (by decide), Nat.zero_add]
        · rw [g3]; show _ = nI (nac ||| ((if hh (co T base out du) (tn_L T) rest c k = true then 2 ^ k else 0) ||| _)); rw [eh, if_neg (by decide), Nat.zero_or]
    · rw [if_neg cA] at eA
      have eh : hh (co T base out du) (tn_L T) rest c k = false := by
        unfold hh; rw [show (sd rest c).testBit k = false by simpa using cA, Bool.false_and]
      obtain ⟨σ2, x2, hE, g1, g2, g3, g4⟩ := ih (k + 1) acc nac (some (.int (nI (2 ^ k)))) σ1 (by omega) h h25 hdu hF h40 h41
      refine ⟨σ2, x2, fun v τ hz => ?_, g1, ?_, ?_, g4⟩
      · refine ex_iload dX0_countOrders_61 rfl rfl ?_
        refine ex_aload_n dX0_countOrders_63 rfl rfl ?_
        refine ex_getI (s := 9) (x := nI (tn_L T)) dX0_countOrders_64 rfl qp_0_22 rfl rfl (h.1) ?_
        refine ex_icmp_ge (q := 170) (q2 := 70) dX0_countOrders_67 rfl rfl (fun hh => absurd hh (nI_ge (a := k) (b := (tn_L T)) (by omega) (by omega))) (fun _ => ?_)
        refine ex_iconst (x := 1) dX0_countOrders_70 rfl rfl ?_
        refine ex_iload dX0_countOrders_71 rfl rfl ?_
        refine ex_ishl (z := nI (2 ^ k)) dX0_countOrders_73 rfl (nI_1shl (by omega)) ?_
        refine ex_istore (ls' := [some (.ref 51), some (.ref 22), some (.int (nI base)), some (.int (nI rest)), some (.ref (44 + s)), some (.int (nI out)), some (.int (nI c)), some (.int (nI k)), some (.int (nI (2 ^ k)))]) dX0_countOrders_74 rfl (Nat.le_of_ble_eq_true rfl) rfl rfl ?_
        refine ex_aload_n dX0_countOrders_76 rfl rfl ?_
        refine ex_getI (s := 25) (x := nI rest) dX0_countOrders_77 rfl qp_0_18 rfl rfl (h25) ?_
        refine ex_iload dX0_countOrders_80 rfl rfl ?_
        refine ex_iconst (x := (-1)) dX0_countOrders_82 rfl rfl ?_
        refine ex_ixor (z := (nI c) ^^^ (-1)) dX0_countOrders_83 rfl (rfl) ?_
        refine ex_iand (z := nI (sd rest c)) dX0_countOrders_84 rfl (sd_nI hr7 hc) ?_
        refine ex_iload dX0_countOrders_85 rfl rfl ?_
        refine ex_iand (z := nI 0) dX0_countOrders_87 rfl (by rw [nI_and, eA]) ?_
        refine ex_if_eq (q := 164) (q2 := 91) dX0_countOrders_88 rfl rfl (fun _ => ?_) (fun hh => absurd (rfl) hh)
        refine ex_iinc (y := nI (k + 1)) (ls' := [some (.ref 51), some (.ref 22), some (.int (nI base)), some (.int (nI rest)), some (.ref (44 + s)), some (.int (nI out)), some (.int (nI c)), some (.int (nI (k + 1))), some (.int (nI (2 ^ k)))]) dX0_countOrders_164 rfl rfl rfl (nI_add k 1) rfl ?_
        refine ex_goto (q := 61) dX0_countOrders_167 rfl ?_
        exact hE v τ hz
      · rw [g2]; show _ = nI (acc + (wg (co T base out du) (tn_L T) rest c k + _)); rw [wg, eh, if_neg (by decide), Nat.zero_add]
      · rw [g3]; show _ = nI (nac ||| ((if hh (co T base out du) (tn_L T) rest c k = true then 2 ^ k else 0) ||| _)); rw [eh, if_neg (by decide), Nat.zero_or]

set_option maxRecDepth 8000 in
set_option maxHeartbeats 2000000 in
theorem l_cPp {T : tn_T} (hT : tn_ok T) {s : Nat} (hs4 : s < 4) {base out rest : Nat} (hb : base < 128) (ho : out < 128) (hr : rest < 2 ^ tn_L T) (du : Nat → Int32) : ∀ (c : Nat) (y z : Option Value) (hy : qm_free [none, none, none, none, none, none, none, y] 8 = true) (σ1 : qm_St), c ≤ 128 → TR σ1 9 18 T → qm_rI σ1 25 = nI rest → (∀ q, q < 7 → qm_rF σ1 (35 + s) q = du q) → FW σ1 (co T base out du) (tn_L T) rest c → ∃ σ', Ex qm_lay 6 mX0_countOrders 12 [some (.ref 51), some (.ref 22), some (.int (nI base)), some (.int (nI rest)), some (.ref (44 + s)), some (.int (nI out)), some (.int (nI c + (-1))), y, z] [] σ1 (some (.int (nI (wW (co T base out du) (tn_L T) rest 0)))) σ' ∧ FW σ' (co T base out du) (tn_L T) rest 0 ∧ qm_rI σ' 25 = nI rest ∧ sm σ1 σ' 25 25 40 42 := by
  have hL := hT.1
  have h128 : 2 ^ tn_L T ≤ 128 := Nat.pow_le_pow_right (n := 2) (by omega) hL
  have hr7 : rest < 128 := by omega
  intro c
  induction c with
  | zero =>
    intro y z hy σ1 hc h h25 hdu hF
    refine ⟨σ1, ?_, hF, h25, sm.rf _ _ _ _ _⟩
    refine ex_iload dX0_countOrders_12 rfl rfl ?_
    refine ex_if_lt (q := 176) (q2 := 17) dX0_countOrders_14 rfl rfl (fun _ => ?_) (fun hh => absurd (by decide) hh)
    refine ex_aload_n dX0_countOrders_176 rfl rfl ?_
    refine ex_getR (b := 52) dX0_countOrders_177 rfl qp_0_11 rfl rfl ?_
    refine ex_iconst (x := 0) dX0_countOrders_180 rfl rfl ?_
    refine ex_iaload (k := 0) (x := nI (wW (co T base out du) (tn_L T) rest 0)) dX0_countOrders_181 rfl rfl (rfl) (by omega) (by decide) ((hF 0 (Nat.le_refl 0) (by decide)).1) ?_
    exact ex_iret dX0_countOrders_182 rfl rfl rfl
  | succ c ih =>
    intro y z hy σ1 hc h h25 hdu hF
    have e0 : (sd c rest = 0) ↔ nI c &&& (nI rest ^^^ (-1)) = 0 := by
      rw [sd_nI (by omega) hr7]
      exact ⟨fun z => by rw [z]; rfl, fun z => (nI_eq (b := 0) (Nat.lt_trans (sd_lt (by omega) _) (by decide)) (by decide)).mp z⟩
    by_cases cq : c = rest
    · have hs1 : sm σ1 (qm_wF (qm_wF σ1 40 c 1) 41 c 0) 25 25 40 42 := ((sm.rf σ1 25 25 40 42).wF _ (by omega)).wF _ (by omega)
      have h1 := h.sm hs1 (by omega) (by omega)
      have h251 : qm_rI (qm_wF (qm_wF σ1 40 c 1) 41 c 0) 25 = nI rest := by rw [hs1.1 _ (by omega)]; exact h25
      have hdu1 : ∀ q, q < 7 → qm_rF (qm_wF (qm_wF σ1 40 c 1) 41 c 0) (35 + s) q = du q := fun q hq => by rw [hs1.2 _ (by omega)]; exact hdu q hq
      have hF1 : FW (qm_wF (qm_wF σ1 40 c 1) 41 c 0) (co T base out du) (tn_L T) rest (c + 1) := (hF.set (by omega) _ _).set (by omega) _ _
      by_cases c2 : sd c rest = 0
      · obtain ⟨σ2, x2, hE, g1, g2, g3, g4⟩ := l_cOp hT hs4 hb ho hr du (c := c) (by omega) c2 (tn_L T) 0 1 0 z _ (by omega) h1 h251 hdu1 hF1 (by rw [rF_ne (Or.inl (by decide)), rF_eq]; rfl) rF_eq
        have e1 := (wv_rec (co T base out du) (tn_L T) rest hL hr (s := c) (by omega) c2).1
        rw [if_pos cq] at e1
        rw [← e1] at g2
        rw [Nat.zero_or] at g3
        have hF2 : FW σ2 (co T base out du) (tn_L T) rest c := fun i h1 h2 => by
          by_cases e : i = c
          · rw [e, g2, g3]
            refine ⟨rfl, ?_⟩
            rw [wN, if_pos c2]
          · exact g1 i (by omega) h2
        obtain ⟨σ', hE2, k1, k2, k3⟩ := ih (some (.int (nI (tn_L T)))) x2 rfl σ2 (by omega) (h1.sm g4 (by omega) (by omega)) (by rw [g4.1 _ (by omega)]; exact h251) (fun q hq => by rw [g4.2 _ (by omega)]; exact hdu1 q hq) hF2
        refine ⟨σ', ?_, k1, k2, hs1.tr (g4.tr k3)⟩
        refine Ex.of_ls (ls' := [some (.ref 51), some (.ref 22), some (.int (nI base)), some (.int (nI rest)), some (.ref (44 + s)), some (.int (nI out)), some (.int (nI c)), y, z]) (by rw [pk_m1 c]) ?_
        refine ex_iload dX0_countOrders_12 rfl rfl ?_
        refine ex_if_lt (q := 176) (q2 := 17) dX0_countOrders_14 rfl rfl (fun hh => absurd hh (nI_pos (by omega))) (fun _ => ?_)
        refine ex_aload_n dX0_countOrders_17 rfl rfl ?_
        refine ex_getR (b := 52) dX0_countOrders_18 rfl qp_0_11 rfl rfl ?_
        refine ex_iload dX0_countOrders_21 rfl rfl ?_
        refine ex_iload dX0_countOrders_23 rfl rfl ?_
        refine ex_aload_n dX0_countOrders_25 rfl rfl ?_
        refine ex_getI (s := 25) (x := nI rest) dX0_countOrders_26 rfl qp_0_18 rfl rfl (h25) ?_
        refine ex_icmp_ne (q := 36) (q2 := 32) dX0_countOrders_29 rfl rfl (fun hh => absurd hh (fun zz => zz (congrArg nI cq))) (fun _ => ?_)
        refine ex_iconst (x := 1) dX0_countOrders_32 rfl rfl ?_
        refine ex_goto (q := 37) dX0_countOrders_33 rfl ?_
        refine ex_iastore (k := c) (σ' := qm_wF σ1 40 c 1) dX0_countOrders_37 rfl rfl (rfl) (by omega) (by decide) rfl ?_
        refine ex_aload_n dX0_countOrders_38 rfl rfl ?_
        refine ex_getR (b := 53) dX0_countOrders_39 rfl qp_0_15 rfl rfl ?_
        refine ex_iload dX0_countOrders_42 rfl rfl ?_
        refine ex_iconst (x := 0) dX0_countOrders_44 rfl rfl ?_
        refine ex_iastore (k := c) (σ' := qm_wF (qm_wF σ1 40 c 1) 41 c 0) dX0_countOrders_45 rfl rfl (rfl) (by omega) (by decide) rfl ?_
        refine ex_iload dX0_countOrders_46 rfl rfl ?_
        refine ex_aload_n dX0_countOrders_48 rfl rfl ?_
        refine ex_getI (s := 25) (x := nI rest) dX0_countOrders_49 rfl qp_0_18 rfl rfl (h25) ?_
        refine ex_iconst (x := (-1)) dX0_countOrders_52 rfl rfl ?_
        refine ex_ixor (z := nI rest ^^^ (-1)) dX0_countOrders_53 rfl (rfl) ?_
        refine ex_iand (z := nI c &&& (nI rest ^^^ (-1))) dX0_countOrders_54 rfl (rfl) ?_
        refine ex_if_ne (q := 170) (q2 := 58) dX0_countOrders_55 rfl rfl (fun hh => absurd hh (fun zz => zz (e0.mp c2))) (fun _ => ?_)
        refine ex_iconst (x := 0) dX0_countOrders_58 rfl rfl ?_
        refine ex_istore (ls' := [some (.ref 51), some (.ref 22), some (.int (nI base)), some (.int (nI rest)), some (.ref (44 + s)), some (.int (nI out)), some (.int (nI c)), some (.int 0), z]) dX0_countOrders_59 rfl (Nat.le_of_ble_eq_true rfl) rfl rfl ?_
        refine hE _ _ ?_
        refine ex_iinc (y := nI c + (-1)) (ls' := [some (.ref 51), some (.ref 22), some (.int (nI base)), some (.int (nI rest)), some (.ref (44 + s)), some (.int (nI out)), some (.int (nI c + (-1))), some (.int (nI (tn_L T))), x2]) dX0_countOrders_170 rfl rfl rfl (rfl) rfl ?_
        refine ex_goto (q := 12) dX0_countOrders_173 rfl ?_
        exact hE2
      · have hF2 : FW (qm_wF (qm_wF σ1 40 c 1) 41 c 0) (co T base out du) (tn_L T) rest c := fun i h1 h2 => by
          by_cases e : i = c
          · rw [e, rF_ne (Or.inl (by decide)), rF_eq, rF_eq]
            refine ⟨?_, ?_⟩
            · rw [wW, if_neg c2]; exact absurd (by rw [cq]; exact (sd_0 hr7 hr7).mpr (fun _ _ z => z)) c2
            · rw [wN, if_neg c2]; rfl
          · exact hF1 i (by omega) h2
        obtain ⟨σ', hE2, k1, k2, k3⟩ := ih y z hy _ (by omega) h1 h251 hdu1 hF2
        refine ⟨σ', ?_, k1, k2, hs1.tr k3⟩
        refine Ex.of_ls (ls' := [some (.ref 51), some (.ref 22), some (.int (nI base)), some (.int (nI rest)), some (.ref (44 + s)), some (.int (nI out)), some (.int (nI c)), y, z]) (by rw [pk_m1 c]) ?_
        refine ex_iload dX0_countOrders_12 rfl rfl ?_
        refine ex_if_lt (q := 176) (q2 := 17) dX0_countOrders_14 rfl rfl (fun hh => absurd hh (nI_pos (by omega))) (fun _ => ?_)
        refine ex_aload_n dX0_countOrders_17 rfl rfl ?_
        refine ex_getR (b := 52) dX0_countOrders_18 rfl qp_0_11 rfl rfl ?_
        refine ex_iload dX0_countOrders_21 rfl rfl ?_
        refine ex_iload dX0_countOrders_23 rfl rfl ?_
        refine ex_aload_n dX0_countOrders_25 rfl rfl ?_
        refine ex_getI (s := 25) (x := nI rest) dX0_countOrders_26 rfl qp_0_18 rfl rfl (h25) ?_
        refine ex_icmp_ne (q := 36) (q2 := 32) dX0_countOrders_29 rfl rfl (fun hh => absurd hh (fun zz => zz (congrArg nI cq))) (fun _ => ?_)
        refine ex_iconst (x := 1) dX0_countOrders_32 rfl rfl ?_
        refine ex_goto (q := 37) dX0_countOrders_33 rfl ?_
        refine ex_iastore (k := c) (σ' := qm_wF σ1 40 c 1) dX0_countOrders_37 rfl rfl (rfl) (by omega) (by decide) rfl ?_
        refine ex_aload_n dX0_countOrders_38 rfl rfl ?_
        refine ex_getR (b := 53) dX0_countOrders_39 rfl qp_0_15 rfl rfl ?_
        refine ex_iload dX0_countOrders_42 rfl rfl ?_
        refine ex_iconst (x := 0) dX0_countOrders_44 rfl rfl ?_
        refine ex_iastore (k := c) (σ' := qm_wF (qm_wF σ1 40 c 1) 41 c 0) dX0_countOrders_45 rfl rfl (rfl) (by omega) (by decide) rfl ?_
        refine ex_iload dX0_countOrders_46 rfl rfl ?_
        refine ex_aload_n dX0_countOrders_48 rfl rfl ?_
        refine ex_getI (s := 25) (x := nI rest) dX0_countOrders_49 rfl qp_0_18 rfl rfl (h25) ?_
        refine ex_iconst (x := (-1)) dX0_countOrders_52 rfl rfl ?_
        refine ex_ixor (z := nI rest ^^^ (-1)) dX0_countOrders_53 rfl (rfl) ?_
        refine ex_iand (z := nI c &&& (nI rest ^^^ (-1))) dX0_countOrders_54 rfl (rfl) ?_
        refine ex_if_ne (q := 170) (q2 := 58) dX0_countOrders_55 rfl rfl (fun _ => ?_) (fun hh => absurd (fun zz => c2 (e0.mpr zz)) hh)
        refine ex_iinc (y := nI c + (-1)) (ls' := [some (.ref 51), some (.ref 22), some (.int (nI base)), some (.int (nI rest)), some (.ref (44 + s)), some (.int (nI out)), some (.int (nI c + (-1))), y, z]) dX0_countOrders_170 rfl rfl rfl (rfl) rfl ?_
        refine ex_goto (q := 12) dX0_countOrders_173 rfl ?_
        exact hE2
    · have hs1 : sm σ1 (qm_wF (qm_wF σ1 40 c 0) 41 c 0) 25 25 40 42 := ((sm.rf σ1 25 25 40 42).wF _ (by omega)).wF _ (by omega)
      have h1 := h.sm hs1 (by omega) (by omega)
      have h251 : qm_rI (qm_wF (qm_wF σ1 40 c 0) 41 c 0) 25 = nI rest := by rw [hs1.1 _ (by omega)]; exact h25
      have hdu1 : ∀ q, q < 7 → qm_rF (qm_wF (qm_wF σ1 40 c 0) 41 c 0) (35 + s) q = du q := fun q hq => by rw [hs1.2 _ (by omega)]; exact hdu q hq
      have hF1 : FW (qm_wF (qm_wF σ1 40 c 0) 41 c 0) (co T base out du) (tn_L T) rest (c + 1) := (hF.set (by omega) _ _).set (by omega) _ _
      by_cases c2 : sd c rest = 0
      · obtain ⟨σ2, x2, hE, g1, g2, g3, g4⟩ := l_cOp hT hs4 hb ho hr du (c := c) (by omega) c2 (tn_L T) 0 0 0 z _ (by omega) h1 h251 hdu1 hF1 (by rw [rF_ne (Or.inl (by decide)), rF_eq]; rfl) rF_eq
        have e1 := (wv_rec (co T base out du) (tn_L T) rest hL hr (s := c) (by omega) c2).1
        rw [if_neg cq] at e1
        rw [← e1] at g2
        rw [Nat.zero_or] at g3
        have hF2 : FW σ2 (co T base out du) (tn_L T) rest c := fun i h1 h2 => by
          by_cases e : i = c
          · rw [e, g2, g3]
            refine ⟨rfl, ?_⟩
            rw [wN, if_pos c2]
          · exact g1 i (by omega) h2
        obtain ⟨σ', hE2, k1, k2, k3⟩ := ih (some (.int (nI (tn_L T)))) x2 rfl σ2 (by omega) (h1.sm g4 (by omega) (by omega)) (by rw [g4.1 _ (by omega)]; exact h251) (fun q hq => by rw [g4.2 _ (by omega)]; exact hdu1 q hq) hF2
        refine ⟨σ', ?_, k1, k2, hs1.tr (g4.tr k3)⟩
        refine Ex.of_ls (ls' := [some (.ref 51), some (.ref 22), some (.int (nI base)), some (.int (nI rest)), some (.ref (44 + s)), some (.int (nI out)), some (.int (nI c)), y, z]) (by rw [pk_m1 c]) ?_
        refine ex_iload dX0_countOrders_12 rfl rfl ?_
        refine ex_if_lt (q := 176) (q2 := 17) dX0_countOrders_14 rfl rfl (fun hh => absurd hh (nI_pos (by omega))) (fun _ => ?_)
        refine ex_aload_n dX0_countOrders_17 rfl rfl ?_
        refine ex_getR (b := 52) dX0_countOrders_18 rfl qp_0_11 rfl rfl ?_
        refine ex_iload dX0_countOrders_21 rfl rfl ?_
        refine ex_iload dX0_countOrders_23 rfl rfl ?_
        refine ex_aload_n dX0_countOrders_25 rfl rfl ?_
        refine ex_getI (s := 25) (x := nI rest) dX0_countOrders_26 rfl qp_0_18 rfl rfl (h25) ?_
        refine ex_icmp_ne (q := 36) (q2 := 32) dX0_countOrders_29 rfl rfl (fun _ => ?_) (fun hh => absurd (fun zz => absurd ((nI_eq (by omega) (by omega)).mp zz) cq) hh)
        refine ex_iconst (x := 0) dX0_countOrders_36 rfl rfl ?_
        refine ex_iastore (k := c) (σ' := qm_wF σ1 40 c 0) dX0_countOrders_37 rfl rfl (rfl) (by omega) (by decide) rfl ?_
        refine ex_aload_n dX0_countOrders_38 rfl rfl ?_
        refine ex_getR (b := 53) dX0_countOrders_39 rfl qp_0_15 rfl rfl ?_
        refine ex_iload dX0_countOrders_42 rfl rfl ?_
        refine ex_iconst (x := 0) dX0_countOrders_44 rfl rfl ?_
        refine ex_iastore (k := c) (σ' := qm_wF (qm_wF σ1 40 c 0) 41 c 0) dX0_countOrders_45 rfl rfl (rfl) (by omega) (by decide) rfl ?_
        refine ex_iload dX0_countOrders_46 rfl rfl ?_
        refine ex_aload_n dX0_countOrders_48 rfl rfl ?_
        refine ex_getI (s := 25) (x := nI rest) dX0_countOrders_49 rfl qp_0_18 rfl rfl (h25) ?_
        refine ex_iconst (x := (-1)) dX0_countOrders_52 rfl rfl ?_
        refine ex_ixor (z := nI rest ^^^ (-1)) dX0_countOrders_53 rfl (rfl) ?_
        refine ex_iand (z := nI c &&& (nI rest ^^^ (-1))) dX0_countOrders_54 rfl (rfl) ?_
        refine ex_if_ne (q := 170) (q2 := 58) dX0_countOrders_55 rfl rfl (fun hh => absurd hh (fun zz => zz (e0.mp c2))) (fun _ => ?_)
        refine ex_iconst (x := 0) dX0_countOrders_58 rfl rfl ?_
        refine ex_istore (ls' := [some (.ref 51), some (.ref 22), some (.int (nI base)), some (.int (nI rest)), some (.ref (44 + s)), some (.int (nI out)), some (.int (nI c)), some (.int 0), z]) dX0_countOrders_59 rfl (Nat.le_of_ble_eq_true rfl) rfl rfl ?_
        refine hE _ _ ?_
        refine ex_iinc (y := nI c + (-1)) (ls' := [some (.ref 51), some (.ref 22), some (.int (nI base)), some (.int (nI rest)), some (.ref (44 + s)), some (.int (nI out)), some (.int (nI c + (-1))), some (.int (nI (tn_L T))), x2]) dX0_countOrders_170 rfl rfl rfl (rfl) rfl ?_
        refine ex_goto (q := 12) dX0_countOrders_173 rfl ?_
        exact hE2
      · have hF2 : FW (qm_wF (qm_wF σ1 40 c 0) 41 c 0) (co T base out du) (tn_L T) rest c := fun i h1 h2 => by
          by_cases e : i = c
          · rw [e, rF_ne (Or.inl (by decide)), rF_eq, rF_eq]
            refine ⟨?_, ?_⟩
            · rw [wW, if_neg c2]; rfl
            · rw [wN, if_neg c2]; rfl
          · exact hF1 i (by omega) h2
        obtain ⟨σ', hE2, k1, k2, k3⟩ := ih y z hy _ (by omega) h1 h251 hdu1 hF2
        refine ⟨σ', ?_, k1, k2, hs1.tr k3⟩
        refine Ex.of_ls (ls' := [some (.ref 51), some (.ref 22), some (.int (nI base)), some (.int (nI rest)), some (.ref (44 + s)), some (.int (nI out)), some (.int (nI c)), y, z]) (by rw [pk_m1 c]) ?_
        refine ex_iload dX0_countOrders_12 rfl rfl ?_
        refine ex_if_lt (q := 176) (q2 := 17) dX0_countOrders_14 rfl rfl (fun hh => absurd hh (nI_pos (by omega))) (fun _ => ?_)
        refine ex_aload_n dX0_countOrders_17 rfl rfl ?_
        refine ex_getR (b := 52) dX0_countOrders_18 rfl qp_0_11 rfl rfl ?_
        refine ex_iload dX0_countOrders_21 rfl rfl ?_
        refine ex_iload dX0_countOrders_23 rfl rfl ?_
        refine ex_aload_n dX0_countOrders_25 rfl rfl ?_
        refine ex_getI (s := 25) (x := nI rest) dX0_countOrders_26 rfl qp_0_18 rfl rfl (h25) ?_
        refine ex_icmp_ne (q := 36) (q2 := 32) dX0_countOrders_29 rfl rfl (fun _ => ?_) (fun hh => absurd (fun zz => absurd ((nI_eq (by omega) (by omega)).mp zz) cq) hh)
        refine ex_iconst (x := 0) dX0_countOrders_36 rfl rfl ?_
        refine ex_iastore (k := c) (σ' := qm_wF σ1 40 c 0) dX0_countOrders_37 rfl rfl (rfl) (by omega) (by decide) rfl ?_
        refine ex_aload_n dX0_countOrders_38 rfl rfl ?_
        refine ex_getR (b := 53) dX0_countOrders_39 rfl qp_0_15 rfl rfl ?_
        refine ex_iload dX0_countOrders_42 rfl rfl ?_
        refine ex_iconst (x := 0) dX0_countOrders_44 rfl rfl ?_
        refine ex_iastore (k := c) (σ' := qm_wF (qm_wF σ1 40 c 0) 41 c 0) dX0_countOrders_45 rfl rfl (rfl) (by omega) (by decide) rfl ?_
        refine ex_iload dX0_countOrders_46 rfl rfl ?_
        refine ex_aload_n dX0_countOrders_48 rfl rfl ?_
        refine ex_getI (s := 25) (x := nI rest) dX0_countOrders_49 rfl qp_0_18 rfl rfl (h25) ?_
        refine ex_iconst (x := (-1)) dX0_countOrders_52 rfl rfl ?_
        refine ex_ixor (z := nI rest ^^^ (-1)) dX0_countOrders_53 rfl (rfl) ?_
        refine ex_iand (z := nI c &&& (nI rest ^^^ (-1))) dX0_countOrders_54 rfl (rfl) ?_
        refine ex_if_ne (q := 170) (q2 := 58) dX0_countOrders_55 rfl rfl (fun _ => ?_) (fun hh => absurd (fun zz => c2 (e0.mpr zz)) hh)
        refine ex_iinc (y := nI c + (-1)) (ls' := [some (.ref 51), some (.ref 22), some (.int (nI base)), some (.int (nI rest)), some (.ref (44 + s)), some (.int (nI out)), some (.int (nI c + (-1))), y, z]) dX0_countOrders_170 rfl rfl rfl (rfl) rfl ?_
        refine ex_goto (q := 12) dX0_countOrders_173 rfl ?_
        exact hE2

set_option maxRecDepth 8000 in
set_option maxHeartbeats 2000000 in
theorem c_countOrders_p {T : tn_T} (hT : tn_ok T) {s : Nat} (hs4 : s < 4) {base out rest : Nat} (hb : base < 128) (ho : out < 128) (hr : rest < 2 ^ tn_L T) (du : Nat → Int32) {σ : qm_St} (h : TR σ 9 18 T) (hdu : ∀ q, q < 7 → qm_rF σ (35 + s) q = du q) : ∃ σ', Ok qm_lay 6 mX0_countOrders [.ref 51, .ref 22, .int (nI base), .int (nI rest), .ref (44 + s), .int (nI out)] σ (some (.int (nI (wv (co T base out du) (tn_L T) rest 0)))) σ' ∧ FW σ' (co T base out du) (tn_L T) rest 0 ∧ qm_rI σ' 25 = nI rest ∧ sm σ σ' 25 26 40 42 := by
  have hL := hT.1
  have h128 : 2 ^ tn_L T ≤ 128 := Nat.pow_le_pow_right (n := 2) (by omega) hL
  have hr7 : rest < 128 := by omega
  have hs1 : sm σ (qm_wI σ 25 (nI rest)) 25 26 40 42 := (sm.rf σ 25 26 40 42).wI _ (by omega)
  obtain ⟨σ', hE, k1, k2, k3⟩ := l_cPp hT hs4 hb ho hr du 128 none none rfl (qm_wI σ 25 (nI rest)) (Nat.le_refl _) (h.sm hs1 (by omega) (by omega)) rfl (fun q hq => by rw [hs1.2 _ (by omega)]; exact hdu q hq) (fun i h1 h2 => by omega)
  rw [show wW (co T base out du) (tn_L T) rest 0 = wv (co T base out du) (tn_L T) rest 0 by rw [wW, if_pos (show sd 0 rest = 0 from Nat.zero_and _)]] at hE
  refine ⟨σ', ?_, k1, k2, hs1.tr (k3.wid (by omega) (by omega))⟩
  refine Ok.of (ls := [some (.ref 51), some (.ref 22), some (.int (nI base)), some (.int (nI rest)), some (.ref (44 + s)), some (.int (nI out)), none, none, none]) (Nat.le_of_ble_eq_true rfl) rfl ?_
  refine ex_aload_n dX0_countOrders_0 rfl rfl ?_
  refine ex_iload_n dX0_countOrders_1 rfl rfl ?_
  refine ex_bipush (x := 127) dX0_countOrders_2 rfl rfl ?_
  refine ex_iand (z := nI rest) dX0_countOrders_4 rfl (by rw [show (127 : Int32) = nI 127 from rfl, nI_and, and_127 _ hr7]) ?_
  refine ex_put (σ' := qm_wI σ 25 (nI rest)) dX0_countOrders_5 rfl qp_0_18 rfl rfl (Or.inl rfl) rfl ?_
  refine ex_bipush (x := 127) dX0_countOrders_8 rfl rfl ?_
  refine ex_istore (ls' := [some (.ref 51), some (.ref 22), some (.int (nI base)), some (.int (nI rest)), some (.ref (44 + s)), some (.int (nI out)), some (.int 127), none, none]) dX0_countOrders_10 rfl (Nat.le_of_ble_eq_true rfl) rfl rfl ?_
  exact hE

set_option maxRecDepth 8000 in
set_option maxHeartbeats 2000000 in
theorem l_firstOrder {ok : Nat → Nat → Bool} {L rest : Nat} (hL : L ≤ 7) (hr : rest < 2 ^ L) {σ : qm_St} (hF : FW σ ok L rest 0) (h25 : qm_rI σ 25 = nI rest) : ∀ (q : List Nat) (d s i : Nat) (x : Option Value), s < 128 → sd s rest = 0 → fv ok L rest s = some q → i + q.length ≤ 7 → Ex qm_lay 2 mX0_firstOrder 17 [some (.ref 51), some (.int (nI d)), some (.int (nI s)), some (.int (nI i)), x] [] σ (some (.int (nI (dgf d q)))) σ := by
  have h128 : 2 ^ L ≤ 128 := Nat.pow_le_pow_right (n := 2) (by omega) hL
  have hr7 : rest < 128 := by omega
  intro q
  induction q with
  | nil =>
    intro d s i x hs hsub hf hi
    by_cases e : s = rest
    · by_cases c7 : i < 7
      · refine ex_iload_n dX0_firstOrder_17 rfl rfl ?_
        refine ex_bipush (x := 7) dX0_firstOrder_18 rfl rfl ?_
        refine ex_icmp_ge (q := 68) (q2 := 23) dX0_firstOrder_20 rfl rfl (fun hh => absurd hh (nI_ge (a := i) (b := 7) (by omega) (by omega))) (fun _ => ?_)
        refine ex_iload_n dX0_firstOrder_23 rfl rfl ?_
        refine ex_aload_n dX0_firstOrder_24 rfl rfl ?_
        refine ex_getI (s := 25) (x := nI rest) dX0_firstOrder_25 rfl qp_0_18 rfl rfl (h25) ?_
        refine ex_icmp_eq (q := 68) (q2 := 31) dX0_firstOrder_28 rfl rfl (fun _ => ?_) (fun hh => absurd (congrArg nI (show s = rest by omega)) hh)
        refine ex_iload_n dX0_firstOrder_68 rfl rfl ?_
        exact ex_iret dX0_firstOrder_69 rfl rfl rfl
      · refine ex_iload_n dX0_firstOrder_17 rfl rfl ?_
        refine ex_bipush (x := 7) dX0_firstOrder_18 rfl rfl ?_
        refine ex_icmp_ge (q := 68) (q2 := 23) dX0_firstOrder_20 rfl rfl (fun _ => ?_) (fun hh => absurd (nI_le (a := 7) (b := i) (by omega) (by omega)) hh)
        refine ex_iload_n dX0_firstOrder_68 rfl rfl ?_
        exact ex_iret dX0_firstOrder_69 rfl rfl rfl
    · rw [(wv_rec ok L rest hL hr hs hsub).2 e] at hf
      cases hl : li (hh ok L rest s) L 0 with
      | none => rw [hl] at hf; cases hf
      | some l =>
        rw [hl] at hf
        have hf2 : (fv ok L rest (s ||| 2 ^ l)).map (fun q => l :: q) = some [] := hf
        cases hq : fv ok L rest (s ||| 2 ^ l) with
        | none => rw [hq] at hf2; cases hf2
        | some q2 => rw [hq] at hf2; cases hf2
  | cons l q ih =>
    intro d s i x hs hsub hf hi
    rw [List.length_cons] at hi
    have e : s ≠ rest := fun e => by
      rw [(wv_end ok L rest hr7 hs hsub e).2] at hf
      cases hf
    rw [(wv_rec ok L rest hL hr hs hsub).2 e] at hf
    cases hl : li (hh ok L rest s) L 0 with
    | none => rw [hl] at hf; cases hf
    | some l2 =>
      rw [hl] at hf
      have hf2 : (fv ok L rest (s ||| 2 ^ l2)).map (fun q => l2 :: q) = some (l :: q) := hf
      cases hq : fv ok L rest (s ||| 2 ^ l2) with
      | none => rw [hq] at hf2; cases hf2
      | some q2 =>
        rw [hq] at hf2
        have e3 : l2 :: q2 = l :: q := Option.some.inj hf2
        obtain ⟨e4, e5⟩ := List.cons.inj e3
        subst e4
        subst e5
        obtain ⟨m1, m2, m3, m4⟩ := li_some _ _ _ _ hl
        have hl7 : l2 < 7 := by omega
        have hb : (sd rest s).testBit l2 = true := by
          unfold hh at m1
          rw [Bool.and_eq_true] at m1
          exact m1.1
        have hor := or_lt128 hs hl7
        have htz : jk_tz (nI (nl (hh ok L rest s) L 0)) = nI l2 := tz_dec _ (nl_lt _ hL) l2 hl7 (by rw [wN_bit, decide_eq_true (by omega), m1]; rfl) (fun j hj => by rw [wN_bit, m4 j (by omega) hj, Bool.and_false])
        have hE := ih (10 * d + l2 + 1) (s ||| 2 ^ l2) (i + 1) (some (.int (nI l2))) hor (sd_sub hr7 hs hl7 hsub hb) hq (by omega)
        refine ex_iload_n dX0_firstOrder_17 rfl rfl ?_
        refine ex_bipush (x := 7) dX0_firstOrder_18 rfl rfl ?_
        refine ex_icmp_ge (q := 68) (q2 := 23) dX0_firstOrder_20 rfl rfl (fun hh => absurd hh (nI_ge (a := i) (b := 7) (by omega) (by omega))) (fun _ => ?_)
        refine ex_iload_n dX0_firstOrder_23 rfl rfl ?_
        refine ex_aload_n dX0_firstOrder_24 rfl rfl ?_
        refine ex_getI (s := 25) (x := nI rest) dX0_firstOrder_25 rfl qp_0_18 rfl rfl (h25) ?_
        refine ex_icmp_eq (q := 68) (q2 := 31) dX0_firstOrder_28 rfl rfl (fun hh => absurd hh (fun zz => absurd ((nI_eq (by omega) (by omega)).mp zz) e)) (fun _ => ?_)
        refine ex_aload_n dX0_firstOrder_31 rfl rfl ?_
        refine ex_getR (b := 53) dX0_firstOrder_32 rfl qp_0_15 rfl rfl ?_
        refine ex_iload_n dX0_firstOrder_35 rfl rfl ?_
        refine ex_iaload (k := s) (x := nI (nl (hh ok L rest s) L 0)) dX0_firstOrder_36 rfl rfl (rfl) (by omega) (by decide) ((by rw [(hF s (Nat.zero_le s) hs).2, wN, if_pos hsub])) ?_
        refine ex_callS (rest := []) dX0_firstOrder_37 rfl qp_0_31 rfl rfl rfl (Nat.le_of_ble_eq_true rfl) ((c_tz _ _).eq (by rw [htz]) rfl) (Nat.le_of_ble_eq_true rfl) ?_
        show Ex qm_lay _ mX0_firstOrder 40 [some (.ref 51), some (.int (nI d)), some (.int (nI s)), some (.int (nI i)), x] [.int (nI l2)] σ _ _
        refine ex_istore (ls' := [some (.ref 51), some (.int (nI d)), some (.int (nI s)), some (.int (nI i)), some (.int (nI l2))]) dX0_firstOrder_40 rfl (Nat.le_of_ble_eq_true rfl) rfl rfl ?_
        refine ex_iload_n dX0_firstOrder_42 rfl rfl ?_
        refine ex_bipush (x := 10) dX0_firstOrder_43 rfl rfl ?_
        refine ex_imul (z := nI (10 * d)) dX0_firstOrder_45 rfl ((by rw [Nat.mul_comm]; exact pk_mul d 10)) ?_
        refine ex_iload dX0_firstOrder_46 rfl rfl ?_
        refine ex_iadd (z := nI ((10 * d) + l2)) dX0_firstOrder_48 rfl (nI_add (10 * d) l2) ?_
        refine ex_iconst (x := 1) dX0_firstOrder_49 rfl rfl ?_
        refine ex_iadd (z := nI (((10 * d) + l2) + 1)) dX0_firstOrder_50 rfl (nI_add ((10 * d) + l2) 1) ?_
        refine ex_istore_n (ls' := [some (.ref 51), some (.int (nI (((10 * d) + l2) + 1))), some (.int (nI s)), some (.int (nI i)), some (.int (nI l2))]) dX0_firstOrder_51 rfl (Nat.le_of_ble_eq_true rfl) rfl rfl ?_
        refine ex_iload_n dX0_firstOrder_52 rfl rfl ?_
        refine ex_iconst (x := 1) dX0_firstOrder_53 rfl rfl ?_
        refine ex_iload dX0_firstOrder_54 rfl rfl ?_
        refine ex_ishl (z := nI (2 ^ l2)) dX0_firstOrder_56 rfl (nI_1shl (by omega)) ?_
        refine ex_ior (z := nI (s ||| (2 ^ l2))) dX0_firstOrder_57 rfl (nI_or _ _) ?_
        refine ex_bipush (x := 127) dX0_firstOrder_58 rfl rfl ?_
        refine ex_iand (z := nI (s ||| 2 ^ l2)) dX0_firstOrder_60 rfl (by rw [show (127 : Int32) = nI 127 from rfl, nI_and, and_127 _ hor]) ?_
        refine ex_istore_n (ls' := [some (.ref 51), some (.int (nI (((10 * d) + l2) + 1))), some (.int (nI (s ||| 2 ^ l2))), some (.int (nI i)), some (.int (nI l2))]) dX0_firstOrder_61 rfl (Nat.le_of_ble_eq_true rfl) rfl rfl ?_
        refine ex_iinc (y := nI (i + 1)) (ls' := [some (.ref 51), some (.int (nI (((10 * d) + l2) + 1))), some (.int (nI (s ||| 2 ^ l2))), some (.int (nI (i + 1))), some (.int (nI l2))]) dX0_firstOrder_62 rfl rfl rfl (nI_add i 1) rfl ?_
        refine ex_goto (q := 17) dX0_firstOrder_65 rfl ?_
        exact hE

def fvI (q : Option (List Nat)) : Int32 := q.elim (-1) fun q => nI (dg q)
theorem fv_len {ok : Nat → Nat → Bool} {L rest s : Nat} (hL : L ≤ 7) (hr : rest < 2 ^ L) {q : List Nat} (h : fv ok L rest s = some q) : q.length ≤ 7 := by
  have h128 : 2 ^ L ≤ 128 := Nat.pow_le_pow_right (n := 2) (by omega) hL
  have hr7 : rest < 128 := by omega
  have hlt : sd rest s < 2 ^ L := Nat.lt_of_le_of_lt Nat.and_le_left hr
  obtain ⟨h1, h2⟩ := fs_mem h
  rw [bl_7 hL hlt] at h1
  rw [(pm_el 7 (sd rest s) (by omega) (bl_len _) q h1).1]
  exact bl_len _
set_option maxRecDepth 8000 in
set_option maxHeartbeats 2000000 in
theorem c_firstOrder {ok : Nat → Nat → Bool} {L rest : Nat} (hL : L ≤ 7) (hr : rest < 2 ^ L) {σ : qm_St} (hF : FW σ ok L rest 0) (h25 : qm_rI σ 25 = nI rest) : Ok qm_lay 2 mX0_firstOrder [.ref 51] σ (some (.int (fvI (fv ok L rest 0)))) σ := by
  have hwl := wv_lt ok L rest hL 0
  have hw0 : qm_rF σ 40 0 = nI (wv ok L rest 0) := by rw [(hF 0 (Nat.le_refl 0) (by decide)).1, wW, if_pos (show sd 0 rest = 0 from Nat.zero_and _)]
  refine Ok.of (ls := [some (.ref 51), none, none, none, none]) (Nat.le_of_ble_eq_true rfl) rfl ?_
  by_cases c : wv ok L rest 0 = 0
  · rw [show fv ok L rest 0 = none from fs_none _ c]
    refine ex_aload_n dX0_firstOrder_0 rfl rfl ?_
    refine ex_getR (b := 52) dX0_firstOrder_1 rfl qp_0_11 rfl rfl ?_
    refine ex_iconst (x := 0) dX0_firstOrder_4 rfl rfl ?_
    refine ex_iaload (k := 0) (x := nI (wv ok L rest 0)) dX0_firstOrder_5 rfl rfl (rfl) (by omega) (by decide) (hw0) ?_
    refine ex_if_ne (q := 11) (q2 := 9) dX0_firstOrder_6 rfl rfl (fun hh => absurd hh (fun zz => zz (by rw [c]; rfl))) (fun _ => ?_)
    refine ex_iconst (x := (-1)) dX0_firstOrder_9 rfl rfl ?_
    exact ex_iret dX0_firstOrder_10 rfl rfl rfl
  · obtain ⟨q, hq⟩ := fs_some _ (Nat.pos_of_ne_zero c)
    have hq2 : fv ok L rest 0 = some q := hq
    have hE := l_firstOrder hL hr hF h25 q 0 0 0 none (by decide) (Nat.zero_and _) hq2 (by have := fv_len hL hr hq2; omega)
    rw [hq2]
    refine ex_aload_n dX0_firstOrder_0 rfl rfl ?_
    refine ex_getR (b := 52) dX0_firstOrder_1 rfl qp_0_11 rfl rfl ?_
    refine ex_iconst (x := 0) dX0_firstOrder_4 rfl rfl ?_
    refine ex_iaload (k := 0) (x := nI (wv ok L rest 0)) dX0_firstOrder_5 rfl rfl (rfl) (by omega) (by decide) (hw0) ?_
    refine ex_if_ne (q := 11) (q2 := 9) dX0_firstOrder_6 rfl rfl (fun _ => ?_) (fun hh => absurd (fun zz => c ((nI_eq (b := 0) (by omega) (by decide)).mp zz)) hh)
    refine ex_iconst (x := 0) dX0_firstOrder_11 rfl rfl ?_
    refine ex_istore_n (ls' := [some (.ref 51), some (.int 0), none, none, none]) dX0_firstOrder_12 rfl (Nat.le_of_ble_eq_true rfl) rfl rfl ?_
    refine ex_iconst (x := 0) dX0_firstOrder_13 rfl rfl ?_
    refine ex_istore_n (ls' := [some (.ref 51), some (.int 0), some (.int 0), none, none]) dX0_firstOrder_14 rfl (Nat.le_of_ble_eq_true rfl) rfl rfl ?_
    refine ex_iconst (x := 0) dX0_firstOrder_15 rfl rfl ?_
    refine ex_istore_n (ls' := [some (.ref 51), some (.int 0), some (.int 0), some (.int 0), none]) dX0_firstOrder_16 rfl (Nat.le_of_ble_eq_true rfl) rfl rfl ?_
    exact hE

