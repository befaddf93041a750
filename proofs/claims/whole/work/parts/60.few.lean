/-! ===== how few colours any painting takes ===== -/
/-- some lots can be painted in k colours -/
def col (T : tn_T) (set k : Nat) : Prop := ∃ f : Nat → Nat, (∀ l, l < 7 → set.testBit l = true → f l < k) ∧ ∀ l o, l < 7 → o < 7 → set.testBit l = true → set.testBit o = true → (tn_b T l).testBit o = true → f l ≠ f o
def PPc (T : tn_T) (set w : Nat) : Prop := ∀ k, w ≤ k ↔ col T set k
theorem PPc.uniq {T : tn_T} {set a b : Nat} (h1 : PPc T set a) (h2 : PPc T set b) : a = b := by
  have x1 := (h1 b).mpr ((h2 b).mp (Nat.le_refl b))
  have x2 := (h2 a).mpr ((h1 a).mp (Nat.le_refl a))
  omega
theorem col_0 (T : tn_T) : PPc T 0 0 := fun k => ⟨fun _ => ⟨fun _ => 0, fun l _ h => (by rw [Nat.zero_testBit] at h; cases h), fun l o _ _ h => (by rw [Nat.zero_testBit] at h; cases h)⟩, fun _ => Nat.zero_le k⟩
theorem col_mono {T : tn_T} {set k m : Nat} (h : col T set k) (hk : k ≤ m) : col T set m := by
  obtain ⟨f, h1, h2⟩ := h
  exact ⟨f, fun l hl hs => Nat.lt_of_lt_of_le (h1 l hl hs) hk, h2⟩
theorem b_self {T : tn_T} (hT : tn_ok T) {l : Nat} (hl : l < tn_L T) : (tn_b T l).testBit l = false := (hT.2.2.2 l hl).2.2.2.1
theorem col_7 {T : tn_T} (hT : tn_ok T) {set : Nat} (hs : set < 2 ^ tn_L T) : col T set 7 := by
  refine ⟨fun l => l, fun l hl _ => hl, fun l o hl ho h1 h2 h3 e => ?_⟩
  have e2 : l = o := e
  subst e2
  rw [b_self hT (bit_lt hs h1)] at h3
  cases h3
/-- none of them beside another -/
def inb (T : tn_T) (p : Nat) : Nat → Nat → Bool
  | 0, _ => true
  | r + 1, k => if p.testBit k = true ∧ ¬ tn_b T k &&& p = 0 then false else inb T p r (k + 1)
theorem inb_iff {T : tn_T} {p : Nat} : ∀ (r k : Nat), inb T p r k = true ↔ ∀ l, k ≤ l → l < k + r → p.testBit l = true → tn_b T l &&& p = 0
  | 0, k => ⟨fun _ l h1 h2 => by omega, fun _ => rfl⟩
  | r + 1, k => by
    rw [inb]
    by_cases c : p.testBit k = true ∧ ¬ tn_b T k &&& p = 0
    · rw [if_pos c]
      exact ⟨fun z => (by cases z), fun h => absurd (h k (Nat.le_refl k) (by omega) c.1) c.2⟩
    · rw [if_neg c, inb_iff r (k + 1)]
      constructor
      · intro h l h1 h2 h3
        by_cases e : l = k
        · subst e
          by_cases d : tn_b T l &&& p = 0
          · exact d
          · exact absurd ⟨h3, d⟩ c
        · exact h l (by omega) (by omega) h3
      · intro h l h1 h2 h3
        exact h l (by omega) (by omega) h3
theorem and_0 {a p : Nat} (h : a &&& p = 0) {o : Nat} (ho : p.testBit o = true) : a.testBit o = false := by
  have h2 : (a &&& p).testBit o = false := by rw [h, Nat.zero_testBit]
  rw [Nat.testBit_and, ho, Bool.and_true] at h2
  exact h2
/-- one colour's lots apart, one colour fewer -/
theorem col_step {T : tn_T} (hT : tn_ok T) {set : Nat} (hs : set < 2 ^ tn_L T) (h0 : set ≠ 0) (k : Nat) : col T set k ↔ (7 ≤ k ∨ ∃ p, p < 128 ∧ p ≠ 0 ∧ p &&& set = p ∧ inb T p (tn_L T) 0 = true ∧ ∃ j, k = j + 1 ∧ col T (sd set p) j) := by
  have hL := hT.1
  have h128 : 2 ^ tn_L T ≤ 128 := Nat.pow_le_pow_right (n := 2) (by omega) hL
  have hs7 : set < 128 := by omega
  obtain ⟨l0, hl0, hb0⟩ : ∃ l, l < 7 ∧ set.testBit l = true := by
    by_cases e : ∃ l, l < 7 ∧ set.testBit l = true
    · exact e
    · exact absurd (bit_ext7 hs7 (by decide) (fun j hj => by
        rw [Nat.zero_testBit]
        cases hz : set.testBit j with
        | false => rfl
        | true => exact absurd ⟨j, hj, hz⟩ e)) h0
  constructor
  · rintro ⟨f, h1, h2⟩
    obtain ⟨j, rfl⟩ : ∃ j, k = j + 1 := ⟨k - 1, by have := h1 l0 hl0 hb0; omega⟩
    refine Or.inr ?_
    by_cases c : ∃ l, l < 7 ∧ set.testBit l = true ∧ f l = j
    · obtain ⟨l1, hl1, hb1, hf1⟩ := c
      obtain ⟨p, hp⟩ : ∃ p, p = nl (fun l => set.testBit l && decide (f l = j)) 7 0 := ⟨_, rfl⟩
      have hpb : ∀ l, p.testBit l = (decide (l < 7) && (set.testBit l && decide (f l = j))) := fun l => by
        rw [hp, wN_bit]
        congr 1
        exact decide_eq_decide.mpr ⟨fun z => by omega, fun z => by omega⟩
      have hp7 : p < 128 := by rw [hp]; exact nl_lt _ (by decide)
      have hsub : ∀ l, p.testBit l = true → set.testBit l = true ∧ f l = j ∧ l < 7 := fun l hl => by
        rw [hpb, Bool.and_eq_true, Bool.and_eq_true] at hl
        exact ⟨hl.2.1, of_decide_eq_true hl.2.2, of_decide_eq_true hl.1⟩
      refine ⟨p, hp7, ?_, ?_, ?_, j, rfl, f, ?_, ?_⟩
      · intro e
        have z := hpb l1
        rw [e, Nat.zero_testBit, hb1, decide_eq_true hl1, decide_eq_true hf1] at z
        cases z
      · refine bit_ext7 (Nat.lt_of_le_of_lt Nat.and_le_left hp7) hp7 (fun l hl => ?_)
        rw [Nat.testBit_and]
        cases hz : p.testBit l with
        | false => rfl
        | true => rw [(hsub l hz).1]; rfl
      · refine (inb_iff (tn_L T) 0).mpr (fun l _ hl hb => ?_)
        refine bit_ext7 (Nat.lt_of_le_of_lt Nat.and_le_right hp7) (by decide) (fun o ho => ?_)
        rw [Nat.zero_testBit, Nat.testBit_and]
        cases hz : p.testBit o with
        | false => rw [Bool.and_false]
        | true =>
          obtain ⟨a1, a2, a3⟩ := hsub l hb
          obtain ⟨b1, b2, b3⟩ := hsub o hz
          cases hy : (tn_b T l).testBit o with
          | false => rfl
          | true => exact absurd (a2.trans b2.symm) (h2 l o a3 b3 a1 b1 hy)
      · intro l hl hb
        rw [sd_tb hp7 hl, Bool.and_eq_true] at hb
        have h3 := h1 l hl hb.1
        have h4 : f l ≠ j := fun e => by
          have z := hpb l
          rw [hb.1, decide_eq_true hl, decide_eq_true e] at z
          rw [z] at hb
          cases hb.2
        omega
      · intro l o hl ho hb1 hb2 h3
        rw [sd_tb hp7 hl, Bool.and_eq_true] at hb1
        rw [sd_tb hp7 ho, Bool.and_eq_true] at hb2
        exact h2 l o hl ho hb1.1 hb2.1 h3
    · have hp7 : 2 ^ l0 < 128 := Nat.pow_lt_pow_right (n := 7) (by omega) hl0
      refine ⟨2 ^ l0, hp7, Nat.ne_of_gt (Nat.two_pow_pos l0), ?_, ?_, j, rfl, f, ?_, ?_⟩
      · rw [Nat.and_comm, and_2, if_pos hb0]
      · refine (inb_iff (tn_L T) 0).mpr (fun l _ hl hb => ?_)
        rw [tb_2] at hb
        have e := of_decide_eq_true hb
        subst e
        rw [and_2, b_self hT (by omega), if_neg (by decide)]
      · intro l hl hb
        rw [sd_tb hp7 hl, Bool.and_eq_true] at hb
        have h3 := h1 l hl hb.1
        have h4 : f l ≠ j := fun e => c ⟨l, hl, hb.1, e⟩
        omega
      · intro l o hl ho hb1 hb2 h3
        rw [sd_tb hp7 hl, Bool.and_eq_true] at hb1
        rw [sd_tb hp7 ho, Bool.and_eq_true] at hb2
        exact h2 l o hl ho hb1.1 hb2.1 h3
  · rintro (h | ⟨p, hp7, hp0, hps, hin, j, rfl, g, g1, g2⟩)
    · exact col_mono (col_7 hT hs) h
    · have hin2 := (inb_iff (tn_L T) 0).mp hin
      have hpset : ∀ l, p.testBit l = true → set.testBit l = true := fun l hl => by
        rw [← hps, Nat.testBit_and, Bool.and_eq_true] at hl
        exact hl.2
      refine ⟨fun l => if p.testBit l = true then j else g l, fun l hl hb => ?_, fun l o hl ho hb1 hb2 h3 => ?_⟩
      · show (if p.testBit l = true then j else g l) < j + 1
        by_cases c : p.testBit l = true
        · rw [if_pos c]; omega
        · rw [if_neg c]
          have := g1 l hl (by rw [sd_tb hp7 hl, hb, show p.testBit l = false by simpa using c]; rfl)
          omega
      · show (if p.testBit l = true then j else g l) ≠ (if p.testBit o = true then j else g o)
        by_cases c : p.testBit l = true
        · rw [if_pos c]
          by_cases d : p.testBit o = true
          · have z := and_0 (hin2 l (Nat.zero_le l) (by have := bit_lt hs (hpset l c); omega) c) d
            rw [z] at h3
            cases h3
          · rw [if_neg d]
            have := g1 o ho (by rw [sd_tb hp7 ho, hb2, show p.testBit o = false by simpa using d]; rfl)
            omega
        · rw [if_neg c]
          have gl := g1 l hl (by rw [sd_tb hp7 hl, hb1, show p.testBit l = false by simpa using c]; rfl)
          by_cases d : p.testBit o = true
          · rw [if_pos d]; omega
          · rw [if_neg d]
            exact g2 l o hl ho (by rw [sd_tb hp7 hl, hb1, show p.testBit l = false by simpa using c]; rfl) (by rw [sd_tb hp7 ho, hb2, show p.testBit o = false by simpa using d]; rfl) h3
/-- the parts of a set, from one on -/
def vs : Nat → Nat → Nat → List Nat
  | 0, _, _ => []
  | f + 1, set, p => if p = 0 then [] else p :: vs f set ((p - 1) &&& set)
set_option maxRecDepth 1000000 in
theorem vs_all : ∀ set, set < 128 → ((List.range 128).all fun p => decide (p = 0) || (!decide (p &&& set = p) || decide (p ∈ vs 128 set set))) = true := by decide +kernel
theorem vs_dec (set : Nat) (hs : set < 128) (p : Nat) (hp : p < 128) (h0 : p ≠ 0) (h1 : p &&& set = p) : p ∈ vs 128 set set := by
  have h := List.all_eq_true.mp (vs_all set hs) p (List.mem_range.mpr hp)
  rw [decide_eq_false h0, decide_eq_true h1, Bool.false_or, Bool.not_true, Bool.false_or] at h
  exact of_decide_eq_true h
theorem vs_sub : ∀ (f set p : Nat), p &&& set = p → ∀ q ∈ vs f set p, q ≠ 0 ∧ q &&& set = q
  | 0, _, _, _, _, h => by cases h
  | f + 1, set, p, hp, q, h => by
    rw [vs] at h
    by_cases c : p = 0
    · rw [if_pos c] at h; cases h
    · rw [if_neg c] at h
      rcases List.mem_cons.mp h with e | e
      · rw [e]; exact ⟨c, hp⟩
      · exact vs_sub f set _ (by rw [Nat.and_assoc, Nat.and_self]) q e
def mn (T : tn_T) (w : Nat → Nat) (set acc p : Nat) : Nat := if inb T p (tn_L T) 0 = true then min acc (1 + w (sd set p)) else acc
theorem mn_fold (T : tn_T) (w : Nat → Nat) (set k : Nat) : ∀ (ls : List Nat) (acc : Nat), (ls.foldl (mn T w set) acc ≤ k ↔ (acc ≤ k ∨ ∃ p ∈ ls, inb T p (tn_L T) 0 = true ∧ 1 + w (sd set p) ≤ k))
  | [], acc => ⟨fun h => Or.inl h, fun h => h.elim id (fun ⟨_, h, _⟩ => (by cases h))⟩
  | p :: ls, acc => by
    rw [List.foldl_cons, mn_fold T w set k ls]
    unfold mn
    constructor
    · rintro (h | ⟨q, hq, h1, h2⟩)
      · by_cases c : inb T p (tn_L T) 0 = true
        · rw [if_pos c] at h
          by_cases d : acc ≤ k
          · exact Or.inl d
          · exact Or.inr ⟨p, List.mem_cons_self, c, by omega⟩
        · rw [if_neg c] at h; exact Or.inl h
      · exact Or.inr ⟨q, List.mem_cons_of_mem _ hq, h1, h2⟩
    · rintro (h | ⟨q, hq, h1, h2⟩)
      · left
        split <;> omega
      · rcases List.mem_cons.mp hq with e | e
        · subst e
          left
          rw [if_pos h1]; omega
        · exact Or.inr ⟨q, e, h1, h2⟩
theorem mn_le (T : tn_T) (w : Nat → Nat) (set : Nat) (ls : List Nat) {acc : Nat} (h : acc ≤ 7) : ls.foldl (mn T w set) acc ≤ 7 := (mn_fold T w set 7 ls acc).mpr (Or.inl h)
theorem mn_PP {T : tn_T} (hT : tn_ok T) {w : Nat → Nat} {set : Nat} (hs : set < 2 ^ tn_L T) (h0 : set ≠ 0) (hw : ∀ i, i < set → PPc T i (w i)) : PPc T set ((vs 128 set set).foldl (mn T w set) 7) := by
  have hL := hT.1
  have h128 : 2 ^ tn_L T ≤ 128 := Nat.pow_le_pow_right (n := 2) (by omega) hL
  intro k
  rw [mn_fold, col_step hT hs h0 k]
  have hlt : ∀ p, p ≠ 0 → p &&& set = p → sd set p < set := fun p hp hps => by
    have h1 : sd set p ≤ set := Nat.and_le_left
    have h2 : sd set p ≠ set := fun e => by
      have hp7 : p < 128 := by rw [← hps]; exact Nat.lt_of_le_of_lt Nat.and_le_right (by omega)
      refine hp (bit_ext7 hp7 (by decide) (fun j hj => ?_))
      rw [Nat.zero_testBit]
      cases hz : p.testBit j with
      | false => rfl
      | true =>
        have z : (p &&& set).testBit j = true := by rw [hps]; exact hz
        rw [Nat.testBit_and, Bool.and_eq_true] at z
        have y := sd_tb (a := set) hp7 hj
        rw [e, z.2, hz] at y
        cases y
    omega
  constructor
  · rintro (h | ⟨p, hp, h1, h2⟩)
    · exact Or.inl h
    · obtain ⟨g1, g2⟩ := vs_sub 128 set set (Nat.and_self set) p hp
      have hp7 : p < 128 := by rw [← g2]; exact Nat.lt_of_le_of_lt Nat.and_le_right (by omega)
      exact Or.inr ⟨p, hp7, g1, g2, h1, k - 1, by omega, (hw _ (hlt p g1 g2) (k - 1)).mp (by omega)⟩
  · rintro (h | ⟨p, hp7, g1, g2, h1, j, rfl, h2⟩)
    · exact Or.inl h
    · exact Or.inr ⟨p, vs_dec set (by omega) p hp7 g1 g2, h1, by have := (hw _ (hlt p g1 g2) j).mpr h2; omega⟩
theorem min_nI {a b : Nat} (ha : a < 2 ^ 31) (hb : b < 2 ^ 31) : (if nI b < nI a then nI b else nI a) = nI (min a b) := by
  by_cases c : b < a
  · rw [if_pos (nI_lt c ha), Nat.min_eq_right (by omega)]
  · rw [if_neg (nI_nlt (by omega) (by omega)), Nat.min_eq_left (by omega)]
/-! the other side: lot by lot -/
def fq (T : tn_T) (l : Nat) (p : Nat → Nat) (c : Nat) : Nat → Bool
  | 0 => true
  | k + 1 => fq T l p c k && (!(tn_b T l).testBit k || decide (p k ≠ c))
theorem fq_iff {T : tn_T} {l : Nat} {p : Nat → Nat} {c : Nat} : ∀ k, fq T l p c k = true ↔ ∀ o, o < k → (tn_b T l).testBit o = true → p o ≠ c
  | 0 => ⟨fun _ o h => by omega, fun _ => rfl⟩
  | k + 1 => by
    rw [fq, Bool.and_eq_true, fq_iff k]
    constructor
    · rintro ⟨h1, h2⟩ o ho hb
      by_cases e : o = k
      · subst e
        rw [hb, Bool.not_true, Bool.false_or] at h2
        exact of_decide_eq_true h2
      · exact h1 o (by omega) hb
    · intro h
      refine ⟨fun o ho hb => h o (by omega) hb, ?_⟩
      cases hz : (tn_b T l).testBit k with
      | false => rfl
      | true => rw [decide_eq_true (h k (Nat.lt_succ_self k) hz)]; rfl
def an (g : Nat → Bool) : Nat → Nat → Bool
  | 0, _ => false
  | s + 1, c => g c || an g s (c + 1)
theorem an_iff {g : Nat → Bool} : ∀ (s c : Nat), an g s c = true ↔ ∃ d, c ≤ d ∧ d < c + s ∧ g d = true
  | 0, c => ⟨fun h => (by cases h), fun ⟨d, h1, h2, _⟩ => by omega⟩
  | s + 1, c => by
    rw [an, Bool.or_eq_true, an_iff s (c + 1)]
    constructor
    · rintro (h | ⟨d, h1, h2, h3⟩)
      · exact ⟨c, Nat.le_refl c, by omega, h⟩
      · exact ⟨d, by omega, by omega, h3⟩
    · rintro ⟨d, h1, h2, h3⟩
      by_cases e : d = c
      · subst e; exact Or.inl h3
      · exact Or.inr ⟨d, by omega, by omega, h3⟩
def sp (p : Nat → Nat) (l c : Nat) : Nat → Nat := fun q => if q = l then c else p q
def cpt (T : tn_T) (many : Nat) : Nat → Nat → (Nat → Nat) → Bool
  | 0, _, _ => true
  | r + 1, l, p => an (fun c => fq T l p c l && cpt T many r (l + 1) (sp p l c)) many 0
theorem cpt_iff (T : tn_T) (many : Nat) : ∀ (r l : Nat) (p : Nat → Nat), cpt T many r l p = true ↔ ∃ f : Nat → Nat, (∀ q, q < l → f q = p q) ∧ (∀ q, l ≤ q → q < l + r → f q < many) ∧ ∀ a b, l ≤ a → a < l + r → b < a → (tn_b T a).testBit b = true → f b ≠ f a
  | 0, l, p => ⟨fun _ => ⟨p, fun _ _ => rfl, fun q h1 h2 => by omega, fun a b h1 h2 => by omega⟩, fun _ => rfl⟩
  | r + 1, l, p => by
    rw [cpt, an_iff]
    constructor
    · rintro ⟨c, _, hc, h⟩
      rw [Bool.and_eq_true, fq_iff, cpt_iff T many r (l + 1)] at h
      obtain ⟨h1, f, h2, h3, h4⟩ := h
      have hfl : f l = c := by rw [h2 l (Nat.lt_succ_self l)]; exact if_pos rfl
      have hfq : ∀ q, q < l → f q = p q := fun q hq => by rw [h2 q (by omega)]; exact if_neg (by omega)
      refine ⟨f, hfq, fun q g1 g2 => ?_, fun a b g1 g2 g3 g4 => ?_⟩
      · by_cases e : q = l
        · rw [e, hfl]; omega
        · exact h3 q (by omega) (by omega)
      · by_cases e : a = l
        · subst e
          rw [hfl, hfq b g3]
          exact h1 b g3 g4
        · exact h4 a b (by omega) (by omega) g3 g4
    · rintro ⟨f, h1, h2, h3⟩
      refine ⟨f l, Nat.zero_le _, by have := h2 l (Nat.le_refl l) (by omega); omega, ?_⟩
      rw [Bool.and_eq_true, fq_iff, cpt_iff T many r (l + 1)]
      refine ⟨fun o ho hb => ?_, f, fun q hq => ?_, fun q g1 g2 => h2 q (by omega) (by omega), fun a b g1 g2 g3 g4 => h3 a b (by omega) (by omega) g3 g4⟩
      · rw [← h1 o ho]
        exact h3 l o (Nat.le_refl l) (by omega) ho hb
      · show f q = if q = l then f l else p q
        by_cases e : q = l
        · rw [if_pos e, e]
        · rw [if_neg e]; exact h1 q (by omega)
def ful (T : tn_T) : Nat := 2 ^ tn_L T - 1
theorem ful_bit (T : tn_T) (l : Nat) : (ful T).testBit l = decide (l < tn_L T) := by rw [ful, Nat.testBit_two_pow_sub_one]
theorem cpt_col {T : tn_T} (hT : tn_ok T) (many : Nat) (p : Nat → Nat) : cpt T many (tn_L T) 0 p = true ↔ col T (ful T) many := by
  have hL := hT.1
  rw [cpt_iff]
  constructor
  · rintro ⟨f, _, h1, h2⟩
    refine ⟨f, fun l _ hb => ?_, fun l o _ _ hb1 hb2 hb => ?_⟩
    · rw [ful_bit] at hb
      exact h1 l (Nat.zero_le l) (by have := of_decide_eq_true hb; omega)
    · rw [ful_bit] at hb1 hb2
      have a1 := of_decide_eq_true hb1
      have a2 := of_decide_eq_true hb2
      have hsym := (hT.2.2.2 l a1).2.2.2.2.2 o a2
      rcases Nat.lt_trichotomy l o with c | c | c
      · exact h2 o l (Nat.zero_le _) (by omega) c (by rw [← hsym]; exact hb)
      · subst c
        rw [b_self hT a1] at hb
        cases hb
      · exact fun e => h2 l o (Nat.zero_le _) (by omega) c hb e.symm
  · rintro ⟨f, h1, h2⟩
    refine ⟨f, fun q hq => by omega, fun q _ hq => h1 q (by omega) (by rw [ful_bit]; exact decide_eq_true (by omega)), fun a b _ ha hb hab e => ?_⟩
    exact h2 a b (by omega) (by omega) (by rw [ful_bit]; exact decide_eq_true (by omega)) (by rw [ful_bit]; exact decide_eq_true (by omega)) hab e.symm
def lst (p : Nat → Bool) : Nat → Nat → Nat
  | 0, k => k
  | f + 1, k => if p k = true then k else lst p f (k + 1)
theorem lst_ok {p : Nat → Bool} : ∀ (f k : Nat), p (k + f) = true → p (lst p f k) = true ∧ k ≤ lst p f k ∧ lst p f k ≤ k + f ∧ ∀ j, k ≤ j → j < lst p f k → p j = false
  | 0, k, h => ⟨h, Nat.le_refl k, Nat.le_refl k, fun j h1 h2 => by rw [lst] at h2; omega⟩
  | f + 1, k, h => by
    rw [lst]
    by_cases c : p k = true
    · rw [if_pos c]
      exact ⟨c, Nat.le_refl k, by omega, fun j h1 h2 => by omega⟩
    · rw [if_neg c]
      obtain ⟨g1, g2, g3, g4⟩ := lst_ok f (k + 1) (by rw [show k + 1 + f = k + (f + 1) by omega]; exact h)
      refine ⟨g1, by omega, by omega, fun j h1 h2 => ?_⟩
      by_cases e : j = k
      · rw [e]; simpa using c
      · exact g4 j (by omega) h2
def few (T : tn_T) : Nat := lst (fun m => cpt T m (tn_L T) 0 (fun _ => 0)) 7 0
theorem cpt_7 {T : tn_T} (hT : tn_ok T) (p : Nat → Nat) : cpt T 7 (tn_L T) 0 p = true := (cpt_col hT 7 p).mpr (col_7 hT (by have := Nat.two_pow_pos (tn_L T); unfold ful; omega))
theorem few_PP {T : tn_T} (hT : tn_ok T) : PPc T (ful T) (few T) := by
  obtain ⟨g1, g2, g3, g4⟩ := lst_ok (p := fun m => cpt T m (tn_L T) 0 (fun _ => 0)) 7 0 (cpt_7 hT _)
  intro k
  constructor
  · intro h
    exact col_mono ((cpt_col hT _ _).mp g1) h
  · intro h
    rcases Nat.lt_or_ge k (few T) with c | c
    · have := g4 k (Nat.zero_le k) c
      rw [(cpt_col hT k _).mpr h] at this
      cases this
    · exact c

theorem sd_lts {set p : Nat} (hs : set < 128) (hp : p ≠ 0) (hps : p &&& set = p) : sd set p < set := by
  have h1 : sd set p ≤ set := Nat.and_le_left
  have h2 : sd set p ≠ set := fun e => by
    have hp7 : p < 128 := by rw [← hps]; exact Nat.lt_of_le_of_lt Nat.and_le_right hs
    refine hp (bit_ext7 hp7 (by decide) (fun j hj => ?_))
    rw [Nat.zero_testBit]
    cases hz : p.testBit j with
    | false => rfl
    | true =>
      have z : (p &&& set).testBit j = true := by rw [hps]; exact hz
      rw [Nat.testBit_and, Bool.and_eq_true] at z
      have y := sd_tb (a := set) hp7 hj
      rw [e, z.2, hz] at y
      cases y
  omega
set_option maxRecDepth 8000 in
set_option maxHeartbeats 2000000 in
theorem l_noneBeside {σ : qm_St} {T : tn_T} (hT : tn_ok T) (h : TR σ 9 18 T) {p : Nat} (hp : p < 128) : ∀ (r k : Nat), k + r = tn_L T → Ex qm_lay 1 mX0_noneBeside 2 [some (.ref 22), some (.int (nI p)), some (.int (nI k))] [] σ (some (.int (b2i (inb T p r k)))) σ := by
  have hL := hT.1
  intro r
  induction r with
  | zero =>
    intro k hk
    refine ex_iload_n dX0_noneBeside_2 rfl rfl ?_
    refine ex_aload_n dX0_noneBeside_3 rfl rfl ?_
    refine ex_getI (s := 9) (x := nI (tn_L T)) dX0_noneBeside_4 rfl qp_0_22 rfl rfl (h.1) ?_
    refine ex_icmp_ge (q := 37) (q2 := 10) dX0_noneBeside_7 rfl rfl (fun _ => ?_) (fun hh => absurd (nI_le (a := (tn_L T)) (b := k) (by omega) (by omega)) hh)
    refine ex_iconst (x := 1) dX0_noneBeside_37 rfl rfl ?_
    exact ex_zret dX0_noneBeside_38 rfl (by decide) rfl rfl
  | succ r ih =>
    intro k hk
    have hbk := tn_b_lt hT (show k < tn_L T by omega)
    by_cases c1 : p.testBit k = true
    · by_cases c2 : tn_b T k &&& p = 0
      · rw [show inb T p (r + 1) k = inb T p r (k + 1) by rw [inb, if_neg (fun z => z.2 c2)]]
        refine ex_iload_n dX0_noneBeside_2 rfl rfl ?_
        refine ex_aload_n dX0_noneBeside_3 rfl rfl ?_
        refine ex_getI (s := 9) (x := nI (tn_L T)) dX0_noneBeside_4 rfl qp_0_22 rfl rfl (h.1) ?_
        refine ex_icmp_ge (q := 37) (q2 := 10) dX0_noneBeside_7 rfl rfl (fun hh => absurd hh (nI_ge (a := k) (b := (tn_L T)) (by omega) (by omega))) (fun _ => ?_)
        refine ex_iload_n dX0_noneBeside_10 rfl rfl ?_
        refine ex_iload_n dX0_noneBeside_11 rfl rfl ?_
        refine ex_ishr (z := (nI p) >>> ((nI k) &&& 31)) dX0_noneBeside_12 rfl (rfl) ?_
        refine ex_iconst (x := 1) dX0_noneBeside_13 rfl rfl ?_
        refine ex_iand (z := b2i (Nat.testBit p k)) dX0_noneBeside_14 rfl (nI_bit (by omega) (by omega)) ?_
        refine ex_if_eq (q := 31) (q2 := 18) dX0_noneBeside_15 rfl rfl (fun hh => absurd hh (b2i_n0.mpr (c1))) (fun _ => ?_)
        refine ex_aload_n dX0_noneBeside_18 rfl rfl ?_
        refine ex_getR (b := 25) dX0_noneBeside_19 rfl qp_0_53 rfl rfl ?_
        refine ex_iload_n dX0_noneBeside_22 rfl rfl ?_
        refine ex_iaload (k := k) (x := nI (tn_b T k)) dX0_noneBeside_23 rfl rfl (rfl) (by omega) (by decide) (TR.bb h (by omega)) ?_
        refine ex_iload_n dX0_noneBeside_24 rfl rfl ?_
        refine ex_iand (z := nI 0) dX0_noneBeside_25 rfl (by rw [nI_and, c2]) ?_
        refine ex_if_eq (q := 31) (q2 := 29) dX0_noneBeside_26 rfl rfl (fun _ => ?_) (fun hh => absurd (rfl) hh)
        refine ex_iinc (y := nI (k + 1)) (ls' := [some (.ref 22), some (.int (nI p)), some (.int (nI (k + 1)))]) dX0_noneBeside_31 rfl rfl rfl (nI_add k 1) rfl ?_
        refine ex_goto (q := 2) dX0_noneBeside_34 rfl ?_
        exact ih (k + 1) (by omega)
      · rw [show inb T p (r + 1) k = false by rw [inb, if_pos ⟨c1, c2⟩]]
        have hlt : tn_b T k &&& p < 128 := Nat.lt_of_le_of_lt Nat.and_le_right hp
        refine ex_iload_n dX0_noneBeside_2 rfl rfl ?_
        refine ex_aload_n dX0_noneBeside_3 rfl rfl ?_
        refine ex_getI (s := 9) (x := nI (tn_L T)) dX0_noneBeside_4 rfl qp_0_22 rfl rfl (h.1) ?_
        refine ex_icmp_ge (q := 37) (q2 := 10) dX0_noneBeside_7 rfl rfl (fun hh => absurd hh (nI_ge (a := k) (b := (tn_L T)) (by omega) (by omega))) (fun _ => ?_)
        refine ex_iload_n dX0_noneBeside_10 rfl rfl ?_
        refine ex_iload_n dX0_noneBeside_11 rfl rfl ?_
        refine ex_ishr (z := (nI p) >>> ((nI k) &&& 31)) dX0_noneBeside_12 rfl (rfl) ?_
        refine ex_iconst (x := 1) dX0_noneBeside_13 rfl rfl ?_
        refine ex_iand (z := b2i (Nat.testBit p k)) dX0_noneBeside_14 rfl (nI_bit (by omega) (by omega)) ?_
        refine ex_if_eq (q := 31) (q2 := 18) dX0_noneBeside_15 rfl rfl (fun hh => absurd hh (b2i_n0.mpr (c1))) (fun _ => ?_)
        refine ex_aload_n dX0_noneBeside_18 rfl rfl ?_
        refine ex_getR (b := 25) dX0_noneBeside_19 rfl qp_0_53 rfl rfl ?_
        refine ex_iload_n dX0_noneBeside_22 rfl rfl ?_
        refine ex_iaload (k := k) (x := nI (tn_b T k)) dX0_noneBeside_23 rfl rfl (rfl) (by omega) (by decide) (TR.bb h (by omega)) ?_
        refine ex_iload_n dX0_noneBeside_24 rfl rfl ?_
        refine ex_iand (z := nI ((tn_b T k) &&& p)) dX0_noneBeside_25 rfl (nI_and _ _) ?_
        refine ex_if_eq (q := 31) (q2 := 29) dX0_noneBeside_26 rfl rfl (fun hh => absurd hh (fun zz => c2 ((nI_eq (b := 0) (by omega) (by decide)).mp zz))) (fun _ => ?_)
        refine ex_iconst (x := 0) dX0_noneBeside_29 rfl rfl ?_
        exact ex_zret dX0_noneBeside_30 rfl (by decide) rfl rfl
    · rw [show inb T p (r + 1) k = inb T p r (k + 1) by rw [inb, if_neg (fun z => c1 z.1)]]
      refine ex_iload_n dX0_noneBeside_2 rfl rfl ?_
      refine ex_aload_n dX0_noneBeside_3 rfl rfl ?_
      refine ex_getI (s := 9) (x := nI (tn_L T)) dX0_noneBeside_4 rfl qp_0_22 rfl rfl (h.1) ?_
      refine ex_icmp_ge (q := 37) (q2 := 10) dX0_noneBeside_7 rfl rfl (fun hh => absurd hh (nI_ge (a := k) (b := (tn_L T)) (by omega) (by omega))) (fun _ => ?_)
      refine ex_iload_n dX0_noneBeside_10 rfl rfl ?_
      refine ex_iload_n dX0_noneBeside_11 rfl rfl ?_
      refine ex_ishr (z := (nI p) >>> ((nI k) &&& 31)) dX0_noneBeside_12 rfl (rfl) ?_
      refine ex_iconst (x := 1) dX0_noneBeside_13 rfl rfl ?_
      refine ex_iand (z := b2i (Nat.testBit p k)) dX0_noneBeside_14 rfl (nI_bit (by omega) (by omega)) ?_
      refine ex_if_eq (q := 31) (q2 := 18) dX0_noneBeside_15 rfl rfl (fun _ => ?_) (fun hh => absurd (b2i_0.mpr (by simpa using c1)) hh)
      refine ex_iinc (y := nI (k + 1)) (ls' := [some (.ref 22), some (.int (nI p)), some (.int (nI (k + 1)))]) dX0_noneBeside_31 rfl rfl rfl (nI_add k 1) rfl ?_
      refine ex_goto (q := 2) dX0_noneBeside_34 rfl ?_
      exact ih (k + 1) (by omega)

theorem c_noneBeside {σ : qm_St} {T : tn_T} (hT : tn_ok T) (h : TR σ 9 18 T) {p : Nat} (hp : p < 128) : Ok qm_lay 1 mX0_noneBeside [.ref 22, .int (nI p)] σ (some (.int (b2i (inb T p (tn_L T) 0)))) σ := by
  refine Ok.of (ls := [some (.ref 22), some (.int (nI p)), none]) (Nat.le_of_ble_eq_true rfl) rfl ?_
  refine ex_iconst (x := 0) dX0_noneBeside_0 rfl rfl ?_
  refine ex_istore_n (ls' := [some (.ref 22), some (.int (nI p)), some (.int 0)]) dX0_noneBeside_1 rfl (Nat.le_of_ble_eq_true rfl) rfl rfl ?_
  exact l_noneBeside hT h hp (tn_L T) 0 (by omega)

set_option maxRecDepth 8000 in
set_option maxHeartbeats 2000000 in
theorem l_fewI {T : tn_T} (hT : tn_ok T) {n set : Nat} (hs : set < 128) (w : Nat → Nat) (hw : ∀ i, i < set → w i ≤ 7) : ∀ (f p acc : Nat) (σ1 : qm_St), p < f → p &&& set = p → acc ≤ 7 → TR σ1 9 18 T → (∀ i, i < set → qm_rF σ1 40 i = nI (w i)) → qm_rF σ1 40 set = nI acc → ∃ σ2, (∀ v τ, Ex qm_lay 10 mX0_fewestColours 86 [some (.ref 51), some (.ref 22), some (.int (nI n)), some (.int (nI set)), some (.int (nI 0))] [] σ2 v τ → Ex qm_lay 10 mX0_fewestColours 33 [some (.ref 51), some (.ref 22), some (.int (nI n)), some (.int (nI set)), some (.int (nI p))] [] σ1 v τ) ∧ (∀ i, i < set → qm_rF σ2 40 i = nI (w i)) ∧ qm_rF σ2 40 set = nI ((vs f set p).foldl (mn T w set) acc) ∧ sm σ1 σ2 25 25 40 41 := by
  have hL := hT.1
  intro f
  induction f with
  | zero => intro p acc σ1 hf; exact absurd hf (Nat.not_lt_zero p)
  | succ f ih =>
    intro p acc σ1 hf hps ha h hwr hset
    have hp7 : p < 128 := by rw [← hps]; exact Nat.lt_of_le_of_lt Nat.and_le_right hs
    by_cases c0 : p = 0
    · subst c0
      refine ⟨σ1, fun v τ hE => ?_, hwr, by rw [hset, vs, if_pos rfl]; rfl, sm.rf _ _ _ _ _⟩
      refine ex_iload dX0_fewestColours_33 rfl rfl ?_
      refine ex_if_le (q := 86) (q2 := 38) dX0_fewestColours_35 rfl rfl (fun _ => ?_) (fun hh => absurd (by decide) hh)
      exact hE
    · have hlt := sd_lts hs c0 hps
      have hw1 := hw _ hlt
      have hp1 : (p - 1) &&& set ≤ p - 1 := Nat.and_le_left
      have hps2 : ((p - 1) &&& set) &&& set = (p - 1) &&& set := by rw [Nat.and_assoc, Nat.and_self]
      have hNB := c_noneBeside hT h hp7
      rw [show (vs (f + 1) set p).foldl (mn T w set) acc = (vs f set ((p - 1) &&& set)).foldl (mn T w set) (mn T w set acc p) by rw [vs, if_neg c0]; rfl]
      by_cases c1 : inb T p (tn_L T) 0 = true
      · rw [show mn T w set acc p = min acc (1 + w (sd set p)) by rw [mn, if_pos c1]]
        have hg : sm σ1 (qm_wF σ1 40 set (nI (min acc (1 + w (sd set p))))) 25 25 40 41 := (sm.rf σ1 25 25 40 41).wF _ (by omega)
        obtain ⟨σ2, hE, g1, g2, g3⟩ := ih ((p - 1) &&& set) (min acc (1 + w (sd set p))) _ (by omega) hps2 (by omega) (h.sm hg (by omega) (by omega)) (fun i hi => by rw [rF_ne (Or.inr (by omega))]; exact hwr i hi) rF_eq
        refine ⟨σ2, fun v τ hz => ?_, g1, g2, hg.tr g3⟩
        refine ex_iload dX0_fewestColours_33 rfl rfl ?_
        refine ex_if_le (q := 86) (q2 := 38) dX0_fewestColours_35 rfl rfl (fun hh => absurd hh (nI_ge (a := 0) (b := p) (by omega) (by omega))) (fun _ => ?_)
        refine ex_aload_n dX0_fewestColours_38 rfl rfl ?_
        refine ex_iload dX0_fewestColours_39 rfl rfl ?_
        refine ex_callS (rest := []) dX0_fewestColours_41 rfl qp_0_43 rfl rfl rfl (Nat.le_of_ble_eq_true rfl) (hNB) (Nat.le_of_ble_eq_true rfl) ?_
        show Ex qm_lay _ mX0_fewestColours 44 [some (.ref 51), some (.ref 22), some (.int (nI n)), some (.int (nI set)), some (.int (nI p))] [.int (b2i (inb T p (tn_L T) 0))] σ1 _ _
        refine ex_if_eq (q := 75) (q2 := 47) dX0_fewestColours_44 rfl rfl (fun hh => absurd hh (b2i_n0.mpr (c1))) (fun _ => ?_)
        refine ex_aload_n dX0_fewestColours_47 rfl rfl ?_
        refine ex_getR (b := 52) dX0_fewestColours_48 rfl qp_0_11 rfl rfl ?_
        refine ex_iload_n dX0_fewestColours_51 rfl rfl ?_
        refine ex_aload_n dX0_fewestColours_52 rfl rfl ?_
        refine ex_getR (b := 52) dX0_fewestColours_53 rfl qp_0_11 rfl rfl ?_
        refine ex_iload_n dX0_fewestColours_56 rfl rfl ?_
        refine ex_iaload (k := set) (x := nI acc) dX0_fewestColours_57 rfl rfl (rfl) (by omega) (by decide) (hset) ?_
        refine ex_iconst (x := 1) dX0_fewestColours_58 rfl rfl ?_
        refine ex_aload_n dX0_fewestColours_59 rfl rfl ?_
        refine ex_getR (b := 52) dX0_fewestColours_60 rfl qp_0_11 rfl rfl ?_
        refine ex_iload_n dX0_fewestColours_63 rfl rfl ?_
        refine ex_iload dX0_fewestColours_64 rfl rfl ?_
        refine ex_iconst (x := (-1)) dX0_fewestColours_66 rfl rfl ?_
        refine ex_ixor (z := (nI p) ^^^ (-1)) dX0_fewestColours_67 rfl (rfl) ?_
        refine ex_iand (z := nI (sd set p)) dX0_fewestColours_68 rfl (sd_nI hs hp7) ?_
        refine ex_iaload (k := sd set p) (x := nI (w (sd set p))) dX0_fewestColours_69 rfl rfl (rfl) (by omega) (by decide) ((hwr _ hlt)) ?_
        refine ex_iadd (z := nI (1 + (w (sd set p)))) dX0_fewestColours_70 rfl (nI_add 1 (w (sd set p))) ?_
        refine ex_min (z := nI (min acc (1 + w (sd set p)))) dX0_fewestColours_71 rfl qp_0_47 (Nat.le_of_ble_eq_true rfl) (min_nI (by omega) (by omega)) ?_
        refine ex_iastore (k := set) (σ' := qm_wF σ1 40 set (nI (min acc (1 + w (sd set p))))) dX0_fewestColours_74 rfl rfl (rfl) (by omega) (by decide) rfl ?_
        refine ex_iload dX0_fewestColours_75 rfl rfl ?_
        refine ex_iconst (x := 1) dX0_fewestColours_77 rfl rfl ?_
        refine ex_isub (z := nI (p - 1)) dX0_fewestColours_78 rfl (pk_sub (b := 1) (by omega)) ?_
        refine ex_iload_n dX0_fewestColours_79 rfl rfl ?_
        refine ex_iand (z := nI ((p - 1) &&& set)) dX0_fewestColours_80 rfl (nI_and _ _) ?_
        refine ex_istore (ls' := [some (.ref 51), some (.ref 22), some (.int (nI n)), some (.int (nI set)), some (.int (nI ((p - 1) &&& set)))]) dX0_fewestColours_81 rfl (Nat.le_of_ble_eq_true rfl) rfl rfl ?_
        refine ex_goto (q := 33) dX0_fewestColours_83 rfl ?_
        exact hE v τ hz
      · rw [show mn T w set acc p = acc by rw [mn, if_neg c1]]
        obtain ⟨σ2, hE, g1, g2, g3⟩ := ih ((p - 1) &&& set) acc σ1 (by omega) hps2 ha h hwr hset
        refine ⟨σ2, fun v τ hz => ?_, g1, g2, g3⟩
        refine ex_iload dX0_fewestColours_33 rfl rfl ?_
        refine ex_if_le (q := 86) (q2 := 38) dX0_fewestColours_35 rfl rfl (fun hh => absurd hh (nI_ge (a := 0) (b := p) (by omega) (by omega))) (fun _ => ?_)
        refine ex_aload_n dX0_fewestColours_38 rfl rfl ?_
        refine ex_iload dX0_fewestColours_39 rfl rfl ?_
        refine ex_callS (rest := []) dX0_fewestColours_41 rfl qp_0_43 rfl rfl rfl (Nat.le_of_ble_eq_true rfl) (hNB) (Nat.le_of_ble_eq_true rfl) ?_
        show Ex qm_lay _ mX0_fewestColours 44 [some (.ref 51), some (.ref 22), some (.int (nI n)), some (.int (nI set)), some (.int (nI p))] [.int (b2i (inb T p (tn_L T) 0))] σ1 _ _
        refine ex_if_eq (q := 75) (q2 := 47) dX0_fewestColours_44 rfl rfl (fun _ => ?_) (fun hh => absurd (b2i_0.mpr (by simpa using c1)) hh)
        refine ex_iload dX0_fewestColours_75 rfl rfl ?_
        refine ex_iconst (x := 1) dX0_fewestColours_77 rfl rfl ?_
        refine ex_isub (z := nI (p - 1)) dX0_fewestColours_78 rfl (pk_sub (b := 1) (by omega)) ?_
        refine ex_iload_n dX0_fewestColours_79 rfl rfl ?_
        refine ex_iand (z := nI ((p - 1) &&& set)) dX0_fewestColours_80 rfl (nI_and _ _) ?_
        refine ex_istore (ls' := [some (.ref 51), some (.ref 22), some (.int (nI n)), some (.int (nI set)), some (.int (nI ((p - 1) &&& set)))]) dX0_fewestColours_81 rfl (Nat.le_of_ble_eq_true rfl) rfl rfl ?_
        refine ex_goto (q := 33) dX0_fewestColours_83 rfl ?_
        exact hE v τ hz

set_option maxRecDepth 8000 in
set_option maxHeartbeats 2000000 in
theorem l_fewO {T : tn_T} (hT : tn_ok T) : ∀ (r set : Nat) (x : Option Value) (w : Nat → Nat) (σ1 : qm_St), set + r = 2 ^ tn_L T → 1 ≤ set → TR σ1 9 18 T → (∀ i, i < set → qm_rF σ1 40 i = nI (w i)) → (∀ i, i < set → PPc T i (w i) ∧ w i ≤ 7) → ∃ σ', Ex qm_lay 10 mX0_fewestColours 17 [some (.ref 51), some (.ref 22), some (.int (nI (2 ^ tn_L T))), some (.int (nI set)), x] [] σ1 (some (.int (nI (few T)))) σ' ∧ sm σ1 σ' 25 25 40 41 := by
  have hL := hT.1
  have h128 : 2 ^ tn_L T ≤ 128 := Nat.pow_le_pow_right (n := 2) (by omega) hL
  have h1L := Nat.two_pow_pos (tn_L T)
  intro r
  induction r with
  | zero =>
    intro set x w σ1 hk h1 h hwr hw
    refine ⟨σ1, ?_, sm.rf _ _ _ _ _⟩
    have e1 : w (ful T) = few T := (hw (ful T) (by unfold ful; omega)).1.uniq (few_PP hT)
    have e2 := hwr (ful T) (by unfold ful; omega)
    rw [e1] at e2
    unfold ful at e2
    refine ex_iload_n dX0_fewestColours_17 rfl rfl ?_
    refine ex_iload_n dX0_fewestColours_18 rfl rfl ?_
    refine ex_icmp_ge (q := 92) (q2 := 22) dX0_fewestColours_19 rfl rfl (fun _ => ?_) (fun hh => absurd (nI_le (a := (2 ^ tn_L T)) (b := set) (by omega) (by omega)) hh)
    refine ex_aload_n dX0_fewestColours_92 rfl rfl ?_
    refine ex_getR (b := 52) dX0_fewestColours_93 rfl qp_0_11 rfl rfl ?_
    refine ex_iload_n dX0_fewestColours_96 rfl rfl ?_
    refine ex_iconst (x := 1) dX0_fewestColours_97 rfl rfl ?_
    refine ex_isub (z := nI (2 ^ tn_L T - 1)) dX0_fewestColours_98 rfl (pk_sub (b := 1) (by omega)) ?_
    refine ex_iaload (k := 2 ^ tn_L T - 1) (x := nI (few T)) dX0_fewestColours_99 rfl rfl (rfl) (by omega) (by decide) (e2) ?_
    exact ex_iret dX0_fewestColours_100 rfl rfl rfl
  | succ r ih =>
    intro set x w σ1 hk h1 h hwr hw
    have hs7 : set < 128 := by omega
    have hg : sm σ1 (qm_wF σ1 40 set 7) 25 25 40 41 := (sm.rf σ1 25 25 40 41).wF _ (by omega)
    obtain ⟨σ2, hE, g1, g2, g3⟩ := l_fewI hT (n := 2 ^ tn_L T) hs7 w (fun i hi => (hw i hi).2) 128 set 7 _ hs7 (Nat.and_self set) (Nat.le_refl 7) (h.sm hg (by omega) (by omega)) (fun i hi => by rw [rF_ne (Or.inr (by omega))]; exact hwr i hi) rF_eq
    obtain ⟨W, hW⟩ : ∃ W, W = (vs 128 set set).foldl (mn T w set) 7 := ⟨_, rfl⟩
    rw [← hW] at g2
    have hPW : PPc T set W := by rw [hW]; exact mn_PP hT (by omega) (by omega) (fun i hi => (hw i hi).1)
    have hW7 : W ≤ 7 := by rw [hW]; exact mn_le T w set _ (Nat.le_refl 7)
    obtain ⟨σ3, hE3, g4⟩ := ih (set + 1) (some (.int (nI 0))) (fun i => if i = set then W else w i) σ2 (by omega) (by omega) ((h.sm hg (by omega) (by omega)).sm g3 (by omega) (by omega)) (fun i hi => by
      show qm_rF σ2 40 i = nI (if i = set then W else w i)
      by_cases e : i = set
      · rw [if_pos e, e]; exact g2
      · rw [if_neg e]; exact g1 i (by omega)) (fun i hi => by
      show PPc T i (if i = set then W else w i) ∧ (if i = set then W else w i) ≤ 7
      by_cases e : i = set
      · rw [if_pos e, e]; exact ⟨hPW, hW7⟩
      · rw [if_neg e]; exact hw i (by omega))
    refine ⟨σ3, ?_, (hg.tr g3).tr g4⟩
    refine ex_iload_n dX0_fewestColours_17 rfl rfl ?_
    refine ex_iload_n dX0_fewestColours_18 rfl rfl ?_
    refine ex_icmp_ge (q := 92) (q2 := 22) dX0_fewestColours_19 rfl rfl (fun hh => absurd hh (nI_ge (a := set) (b := (2 ^ tn_L T)) (by omega) (by omega))) (fun _ => ?_)
    refine ex_aload_n dX0_fewestColours_22 rfl rfl ?_
    refine ex_getR (b := 52) dX0_fewestColours_23 rfl qp_0_11 rfl rfl ?_
    refine ex_iload_n dX0_fewestColours_26 rfl rfl ?_
    refine ex_bipush (x := 7) dX0_fewestColours_27 rfl rfl ?_
    refine ex_iastore (k := set) (σ' := qm_wF σ1 40 set 7) dX0_fewestColours_29 rfl rfl (rfl) (by omega) (by decide) rfl ?_
    refine ex_iload_n dX0_fewestColours_30 rfl rfl ?_
    refine ex_istore (ls' := [some (.ref 51), some (.ref 22), some (.int (nI (2 ^ tn_L T))), some (.int (nI set)), some (.int (nI set))]) dX0_fewestColours_31 rfl (Nat.le_of_ble_eq_true rfl) rfl rfl ?_
    refine hE _ _ ?_
    refine ex_iinc (y := nI (set + 1)) (ls' := [some (.ref 51), some (.ref 22), some (.int (nI (2 ^ tn_L T))), some (.int (nI (set + 1))), some (.int (nI 0))]) dX0_fewestColours_86 rfl rfl rfl (nI_add set 1) rfl ?_
    refine ex_goto (q := 17) dX0_fewestColours_89 rfl ?_
    exact hE3

set_option maxRecDepth 8000 in
set_option maxHeartbeats 2000000 in
theorem c_fewestColours {σ : qm_St} {T : tn_T} (hT : tn_ok T) (h : TR σ 9 18 T) : ∃ σ', Ok qm_lay 10 mX0_fewestColours [.ref 51, .ref 22] σ (some (.int (nI (few T)))) σ' ∧ sm σ σ' 25 25 40 41 := by
  have hL := hT.1
  have h128 : 2 ^ tn_L T ≤ 128 := Nat.pow_le_pow_right (n := 2) (by omega) hL
  have h1L := Nat.two_pow_pos (tn_L T)
  obtain ⟨σ1, hO1, hs1, hz⟩ := c_fill (lay := qm_lay) (σ := σ) (p := 52) (n := 128) (j := 40) rfl (by decide) 0
  have h1 := h.sm hs1 (by omega) (by omega)
  obtain ⟨σ', hE, hs2⟩ := l_fewO hT (2 ^ tn_L T - 1) 1 none (fun _ => 0) σ1 (by omega) (Nat.le_refl 1) h1 (fun i hi => hz i (by omega)) (fun i hi => ⟨by rw [show i = 0 by omega]; exact col_0 T, by decide⟩)
  refine ⟨σ', ?_, (hs1.em 25).tr hs2⟩
  refine Ok.of (ls := [some (.ref 51), some (.ref 22), none, none, none]) (Nat.le_of_ble_eq_true rfl) rfl ?_
  refine ex_aload_n dX0_fewestColours_0 rfl rfl ?_
  refine ex_getR (b := 52) dX0_fewestColours_1 rfl qp_0_11 rfl rfl ?_
  refine ex_iconst (x := 0) dX0_fewestColours_4 rfl rfl ?_
  refine ex_callS (rest := []) dX0_fewestColours_5 rfl qp_0_37 rfl rfl rfl (Nat.le_of_ble_eq_true rfl) (hO1) (Nat.le_of_ble_eq_true rfl) ?_
  show Ex qm_lay _ mX0_fewestColours 8 [some (.ref 51), some (.ref 22), none, none, none] [] σ1 _ _
  refine ex_iconst (x := 1) dX0_fewestColours_8 rfl rfl ?_
  refine ex_aload_n dX0_fewestColours_9 rfl rfl ?_
  refine ex_getI (s := 9) (x := nI (tn_L T)) dX0_fewestColours_10 rfl qp_0_22 rfl rfl (h1.1) ?_
  refine ex_ishl (z := nI (2 ^ (tn_L T))) dX0_fewestColours_13 rfl (nI_1shl (by omega)) ?_
  refine ex_istore_n (ls' := [some (.ref 51), some (.ref 22), some (.int (nI (2 ^ (tn_L T)))), none, none]) dX0_fewestColours_14 rfl (Nat.le_of_ble_eq_true rfl) rfl rfl ?_
  refine ex_iconst (x := 1) dX0_fewestColours_15 rfl rfl ?_
  refine ex_istore_n (ls' := [some (.ref 51), some (.ref 22), some (.int (nI (2 ^ (tn_L T)))), some (.int 1), none]) dX0_fewestColours_16 rfl (Nat.le_of_ble_eq_true rfl) rfl rfl ?_
  exact hE

set_option maxRecDepth 8000 in
set_option maxHeartbeats 2000000 in
theorem l_canP1 {σ : qm_St} {T : tn_T} (hT : tn_ok T) (h : MR σ T) {l many c : Nat} {p : Nat → Nat} (hl : l < tn_L T) (hc : c < 8) (hpb : ∀ q, q < l → p q < 8) (hp : ∀ q, q < l → qm_rF σ 61 q = nI (p q)) {D : Nat} : ∀ (r k : Nat), k + r = l → ∀ v τ, Ex qm_lay (D + 2) mX9_canPaint 68 [some (.ref 55), some (.int (nI l)), some (.int (nI many)), some (.int (nI c)), some (.int (b2i (fq T l p c l))), some (.int (nI l))] [] σ v τ → Ex qm_lay (D + 2) mX9_canPaint 23 [some (.ref 55), some (.int (nI l)), some (.int (nI many)), some (.int (nI c)), some (.int (b2i (fq T l p c k))), some (.int (nI k))] [] σ v τ := by
  have hL := hT.1
  intro r
  induction r with
  | zero =>
    intro k hk v τ hE
    have e : k = l := by omega
    subst e
    refine ex_iload dX9_canPaint_23 rfl rfl ?_
    refine ex_iload_n dX9_canPaint_25 rfl rfl ?_
    refine ex_icmp_ge (q := 68) (q2 := 29) dX9_canPaint_26 rfl rfl (fun _ => ?_) (fun hh => absurd (nI_le (a := k) (b := k) (by omega) (by omega)) hh)
    exact hE
  | succ r ih =>
    intro k hk v τ hE
    have hpk := hpb k (by omega)
    have hE2 := ih (k + 1) (by omega) v τ hE
    have e0 : fq T l p c (k + 1) = (fq T l p c k && (!(tn_b T l).testBit k || decide (p k ≠ c))) := rfl
    by_cases c1 : fq T l p c k = true
    · by_cases c2 : (tn_b T l).testBit k = true
      · by_cases c3 : p k = c
        · rw [e0, c1, c2, decide_eq_false (fun z => z c3)] at hE2
          refine ex_iload dX9_canPaint_23 rfl rfl ?_
          refine ex_iload_n dX9_canPaint_25 rfl rfl ?_
          refine ex_icmp_ge (q := 68) (q2 := 29) dX9_canPaint_26 rfl rfl (fun hh => absurd hh (nI_ge (a := k) (b := l) (by omega) (by omega))) (fun _ => ?_)
          refine ex_iload dX9_canPaint_29 rfl rfl ?_
          refine ex_if_eq (q := 59) (q2 := 34) dX9_canPaint_31 rfl rfl (fun hh => absurd hh (b2i_n0.mpr (c1))) (fun _ => ?_)
          refine ex_aload_n dX9_canPaint_34 rfl rfl ?_
          refine ex_iload_n dX9_canPaint_35 rfl rfl ?_
          refine ex_iload dX9_canPaint_36 rfl rfl ?_
          refine ex_callV (a := 55) (rest := []) dX9_canPaint_38 rfl qp_8_186 rfl rfl rfl rfl rfl (Nat.le_of_ble_eq_true rfl) (k_areBeside hT h hl (by omega)) (by omega) ?_
          show Ex qm_lay _ mX9_canPaint 41 [some (.ref 55), some (.int (nI l)), some (.int (nI many)), some (.int (nI c)), some (.int (b2i (fq T l p c k))), some (.int (nI k))] [.int (b2i (Nat.testBit (tn_b T l) k))] σ _ _
          refine ex_if_eq (q := 55) (q2 := 44) dX9_canPaint_41 rfl rfl (fun hh => absurd hh (b2i_n0.mpr (c2))) (fun _ => ?_)
          refine ex_aload_n dX9_canPaint_44 rfl rfl ?_
          refine ex_getR (b := 75) dX9_canPaint_45 rfl qp_8_67 rfl rfl ?_
          refine ex_iload dX9_canPaint_48 rfl rfl ?_
          refine ex_iaload (k := k) (x := nI (p k)) dX9_canPaint_50 rfl rfl (rfl) (by omega) (by decide) ((hp k (by omega))) ?_
          refine ex_iload_n dX9_canPaint_51 rfl rfl ?_
          refine ex_icmp_eq (q := 59) (q2 := 55) dX9_canPaint_52 rfl rfl (fun _ => ?_) (fun hh => absurd (congrArg nI c3) hh)
          refine ex_iconst (x := 0) dX9_canPaint_59 rfl rfl ?_
          refine ex_istore (ls' := [some (.ref 55), some (.int (nI l)), some (.int (nI many)), some (.int (nI c)), some (.int 0), some (.int (nI k))]) dX9_canPaint_60 rfl (Nat.le_of_ble_eq_true rfl) rfl rfl ?_
          refine ex_iinc (y := nI (k + 1)) (ls' := [some (.ref 55), some (.int (nI l)), some (.int (nI many)), some (.int (nI c)), some (.int 0), some (.int (nI (k + 1)))]) dX9_canPaint_62 rfl rfl rfl (nI_add k 1) rfl ?_
          refine ex_goto (q := 23) dX9_canPaint_65 rfl ?_
          exact hE2
        · rw [e0, c1, c2, decide_eq_true c3] at hE2
          refine ex_iload dX9_canPaint_23 rfl rfl ?_
          refine ex_iload_n dX9_canPaint_25 rfl rfl ?_
          refine ex_icmp_ge (q := 68) (q2 := 29) dX9_canPaint_26 rfl rfl (fun hh => absurd hh (nI_ge (a := k) (b := l) (by omega) (by omega))) (fun _ => ?_)
          refine ex_iload dX9_canPaint_29 rfl rfl ?_
          refine ex_if_eq (q := 59) (q2 := 34) dX9_canPaint_31 rfl rfl (fun hh => absurd hh (b2i_n0.mpr (c1))) (fun _ => ?_)
          refine ex_aload_n dX9_canPaint_34 rfl rfl ?_
          refine ex_iload_n dX9_canPaint_35 rfl rfl ?_
          refine ex_iload dX9_canPaint_36 rfl rfl ?_
          refine ex_callV (a := 55) (rest := []) dX9_canPaint_38 rfl qp_8_186 rfl rfl rfl rfl rfl (Nat.le_of_ble_eq_true rfl) (k_areBeside hT h hl (by omega)) (by omega) ?_
          show Ex qm_lay _ mX9_canPaint 41 [some (.ref 55), some (.int (nI l)), some (.int (nI many)), some (.int (nI c)), some (.int (b2i (fq T l p c k))), some (.int (nI k))] [.int (b2i (Nat.testBit (tn_b T l) k))] σ _ _
          refine ex_if_eq (q := 55) (q2 := 44) dX9_canPaint_41 rfl rfl (fun hh => absurd hh (b2i_n0.mpr (c2))) (fun _ => ?_)
          refine ex_aload_n dX9_canPaint_44 rfl rfl ?_
          refine ex_getR (b := 75) dX9_canPaint_45 rfl qp_8_67 rfl rfl ?_
          refine ex_iload dX9_canPaint_48 rfl rfl ?_
          refine ex_iaload (k := k) (x := nI (p k)) dX9_canPaint_50 rfl rfl (rfl) (by omega) (by decide) ((hp k (by omega))) ?_
          refine ex_iload_n dX9_canPaint_51 rfl rfl ?_
          refine ex_icmp_eq (q := 59) (q2 := 55) dX9_canPaint_52 rfl rfl (fun hh => absurd hh (fun zz => c3 ((nI_eq (by omega) (by omega)).mp zz))) (fun _ => ?_)
          refine ex_iconst (x := 1) dX9_canPaint_55 rfl rfl ?_
          refine ex_goto (q := 60) dX9_canPaint_56 rfl ?_
          refine ex_istore (ls' := [some (.ref 55), some (.int (nI l)), some (.int (nI many)), some (.int (nI c)), some (.int 1), some (.int (nI k))]) dX9_canPaint_60 rfl (Nat.le_of_ble_eq_true rfl) rfl rfl ?_
          refine ex_iinc (y := nI (k + 1)) (ls' := [some (.ref 55), some (.int (nI l)), some (.int (nI many)), some (.int (nI c)), some (.int 1), some (.int (nI (k + 1)))]) dX9_canPaint_62 rfl rfl rfl (nI_add k 1) rfl ?_
          refine ex_goto (q := 23) dX9_canPaint_65 rfl ?_
          exact hE2
      · rw [e0, c1, show (tn_b T l).testBit k = false by simpa using c2] at hE2
        refine ex_iload dX9_canPaint_23 rfl rfl ?_
        refine ex_iload_n dX9_canPaint_25 rfl rfl ?_
        refine ex_icmp_ge (q := 68) (q2 := 29) dX9_canPaint_26 rfl rfl (fun hh => absurd hh (nI_ge (a := k) (b := l) (by omega) (by omega))) (fun _ => ?_)
        refine ex_iload dX9_canPaint_29 rfl rfl ?_
        refine ex_if_eq (q := 59) (q2 := 34) dX9_canPaint_31 rfl rfl (fun hh => absurd hh (b2i_n0.mpr (c1))) (fun _ => ?_)
        refine ex_aload_n dX9_canPaint_34 rfl rfl ?_
        refine ex_iload_n dX9_canPaint_35 rfl rfl ?_
        refine ex_iload dX9_canPaint_36 rfl rfl ?_
        refine ex_callV (a := 55) (rest := []) dX9_canPaint_38 rfl qp_8_186 rfl rfl rfl rfl rfl (Nat.le_of_ble_eq_true rfl) (k_areBeside hT h hl (by omega)) (by omega) ?_
        show Ex qm_lay _ mX9_canPaint 41 [some (.ref 55), some (.int (nI l)), some (.int (nI many)), some (.int (nI c)), some (.int (b2i (fq T l p c k))), some (.int (nI k))] [.int (b2i (Nat.testBit (tn_b T l) k))] σ _ _
        refine ex_if_eq (q := 55) (q2 := 44) dX9_canPaint_41 rfl rfl (fun _ => ?_) (fun hh => absurd (b2i_0.mpr (by simpa using c2)) hh)
        refine ex_iconst (x := 1) dX9_canPaint_55 rfl rfl ?_
        refine ex_goto (q := 60) dX9_canPaint_56 rfl ?_
        refine ex_istore (ls' := [some (.ref 55), some (.int (nI l)), some (.int (nI many)), some (.int (nI c)), some (.int 1), some (.int (nI k))]) dX9_canPaint_60 rfl (Nat.le_of_ble_eq_true rfl) rfl rfl ?_
        refine ex_iinc (y := nI (k + 1)) (ls' := [some (.ref 55), some (.int (nI l)), some (.int (nI many)), some (.int (nI c)), some (.int 1), some (.int (nI (k + 1)))]) dX9_canPaint_62 rfl rfl rfl (nI_add k 1) rfl ?_
        refine ex_goto (q := 23) dX9_canPaint_65 rfl ?_
        exact hE2
    · rw [e0, show fq T l p c k = false by simpa using c1] at hE2
      refine ex_iload dX9_canPaint_23 rfl rfl ?_
      refine ex_iload_n dX9_canPaint_25 rfl rfl ?_
      refine ex_icmp_ge (q := 68) (q2 := 29) dX9_canPaint_26 rfl rfl (fun hh => absurd hh (nI_ge (a := k) (b := l) (by omega) (by omega))) (fun _ => ?_)
      refine ex_iload dX9_canPaint_29 rfl rfl ?_
      refine ex_if_eq (q := 59) (q2 := 34) dX9_canPaint_31 rfl rfl (fun _ => ?_) (fun hh => absurd (b2i_0.mpr (by simpa using c1)) hh)
      refine ex_iconst (x := 0) dX9_canPaint_59 rfl rfl ?_
      refine ex_istore (ls' := [some (.ref 55), some (.int (nI l)), some (.int (nI many)), some (.int (nI c)), some (.int 0), some (.int (nI k))]) dX9_canPaint_60 rfl (Nat.le_of_ble_eq_true rfl) rfl rfl ?_
      refine ex_iinc (y := nI (k + 1)) (ls' := [some (.ref 55), some (.int (nI l)), some (.int (nI many)), some (.int (nI c)), some (.int 0), some (.int (nI (k + 1)))]) dX9_canPaint_62 rfl rfl rfl (nI_add k 1) rfl ?_
      refine ex_goto (q := 23) dX9_canPaint_65 rfl ?_
      exact hE2

set_option maxRecDepth 8000 in
set_option maxHeartbeats 2000000 in
theorem l_canP2 {T : tn_T} (hT : tn_ok T) {many : Nat} (hm : many ≤ 7) (r : Nat) (IH : ∀ (l : Nat) (p : Nat → Nat) (σ : qm_St), l + r = tn_L T → MR σ T → (∀ q, q < l → p q < 8) → (∀ q, q < l → qm_rF σ 61 q = nI (p q)) → ∃ σ', Ok qm_lay (r + 2) mX9_canPaint [.ref 55, .int (nI l), .int (nI many)] σ (some (.int (b2i (cpt T many r l p)))) σ' ∧ (∀ q, q < l → qm_rF σ' 61 q = nI (p q)) ∧ sm σ σ' 36 36 61 62) {l : Nat} {p : Nat → Nat} (hl : l + (r + 1) = tn_L T) (hpb : ∀ q, q < l → p q < 8) : ∀ (s c : Nat) (x y : Option Value) (hx : qm_free [none, none, none, none, x] 5 = true) (σ : qm_St), c + s = many → MR σ T → (∀ q, q < l → qm_rF σ 61 q = nI (p q)) → ∃ σ', Ex qm_lay (r + 1 + 2) mX9_canPaint 12 [some (.ref 55), some (.int (nI l)), some (.int (nI many)), some (.int (nI c)), x, y] [] σ (some (.int (b2i (an (fun c => fq T l p c l && cpt T many r (l + 1) (sp p l c)) s c)))) σ' ∧ (∀ q, q < l → qm_rF σ' 61 q = nI (p q)) ∧ sm σ σ' 36 36 61 62 := by
  have hL := hT.1
  intro s
  induction s with
  | zero =>
    intro c x y hx σ hc h hp
    refine ⟨σ, ?_, hp, sm.rf _ _ _ _ _⟩
    refine ex_iload_n dX9_canPaint_12 rfl rfl ?_
    refine ex_iload_n dX9_canPaint_13 rfl rfl ?_
    refine ex_icmp_ge (q := 99) (q2 := 17) dX9_canPaint_14 rfl rfl (fun _ => ?_) (fun hh => absurd (nI_le (a := many) (b := c) (by omega) (by omega)) hh)
    refine ex_iconst (x := 0) dX9_canPaint_99 rfl rfl ?_
    exact ex_zret dX9_canPaint_100 rfl (by decide) rfl rfl
  | succ s ih =>
    intro c x y hx σ hc h hp
    have hg : sm σ (qm_wF σ 61 l (nI c)) 36 36 61 62 := (sm.rf σ 36 36 61 62).wF _ (by omega)
    have h1 := h.sm hg (by omega) (by omega)
    have hp1 : ∀ q, q < l → qm_rF (qm_wF σ 61 l (nI c)) 61 q = nI (p q) := fun q hq => by rw [rF_ne (Or.inr (by omega))]; exact hp q hq
    have e0 : an (fun c => fq T l p c l && cpt T many r (l + 1) (sp p l c)) (s + 1) c = ((fq T l p c l && cpt T many r (l + 1) (sp p l c)) || an (fun c => fq T l p c l && cpt T many r (l + 1) (sp p l c)) s (c + 1)) := rfl
    by_cases c1 : fq T l p c l = true
    · obtain ⟨σ2, hO, hp2, hs2⟩ := IH (l + 1) (sp p l c) (qm_wF σ 61 l (nI c)) (by omega) h1 (fun q hq => by
        show (if q = l then c else p q) < 8
        by_cases e : q = l
        · rw [if_pos e]; omega
        · rw [if_neg e]; exact hpb q (by omega)) (fun q hq => by
        show qm_rF (qm_wF σ 61 l (nI c)) 61 q = nI (if q = l then c else p q)
        by_cases e : q = l
        · rw [if_pos e, e, rF_eq]
        · rw [if_neg e]; exact hp1 q (by omega))
      have hp3 : ∀ q, q < l → qm_rF σ2 61 q = nI (p q) := fun q hq => by
        rw [hp2 q (by omega)]
        show nI (if q = l then c else p q) = nI (p q)
        rw [if_neg (by omega)]
      by_cases c2 : cpt T many r (l + 1) (sp p l c) = true
      · rw [e0, c1, c2]
        refine ⟨σ2, ?_, hp3, hg.tr hs2⟩
        refine ex_iload_n dX9_canPaint_12 rfl rfl ?_
        refine ex_iload_n dX9_canPaint_13 rfl rfl ?_
        refine ex_icmp_ge (q := 99) (q2 := 17) dX9_canPaint_14 rfl rfl (fun hh => absurd hh (nI_ge (a := c) (b := many) (by omega) (by omega))) (fun _ => ?_)
        refine ex_iconst (x := 1) dX9_canPaint_17 rfl rfl ?_
        refine ex_istore (ls' := [some (.ref 55), some (.int (nI l)), some (.int (nI many)), some (.int (nI c)), some (.int 1), y]) dX9_canPaint_18 rfl (Nat.le_of_ble_eq_true rfl) rfl rfl ?_
        refine ex_iconst (x := 0) dX9_canPaint_20 rfl rfl ?_
        refine ex_istore (ls' := [some (.ref 55), some (.int (nI l)), some (.int (nI many)), some (.int (nI c)), some (.int 1), some (.int 0)]) dX9_canPaint_21 rfl (Nat.le_of_ble_eq_true rfl) rfl rfl ?_
        refine l_canP1 hT h (show l < tn_L T by omega) (by omega) hpb hp (D := r + 1) l 0 (by omega) _ _ ?_
        refine ex_aload_n dX9_canPaint_68 rfl rfl ?_
        refine ex_getR (b := 75) dX9_canPaint_69 rfl qp_8_67 rfl rfl ?_
        refine ex_iload_n dX9_canPaint_72 rfl rfl ?_
        refine ex_iload_n dX9_canPaint_73 rfl rfl ?_
        refine ex_iastore (k := l) (σ' := qm_wF σ 61 l (nI c)) dX9_canPaint_74 rfl rfl (rfl) (by omega) (by decide) rfl ?_
        refine ex_iload dX9_canPaint_75 rfl rfl ?_
        refine ex_if_eq (q := 93) (q2 := 80) dX9_canPaint_77 rfl rfl (fun hh => absurd hh (b2i_n0.mpr (c1))) (fun _ => ?_)
        refine ex_aload_n dX9_canPaint_80 rfl rfl ?_
        refine ex_iload_n dX9_canPaint_81 rfl rfl ?_
        refine ex_iconst (x := 1) dX9_canPaint_82 rfl rfl ?_
        refine ex_iadd (z := nI (l + 1)) dX9_canPaint_83 rfl (nI_add l 1) ?_
        refine ex_iload_n dX9_canPaint_84 rfl rfl ?_
        refine ex_callV (a := 55) (rest := []) dX9_canPaint_85 rfl qp_8_259 rfl rfl rfl rfl rfl (Nat.le_of_ble_eq_true rfl) (hO) (by omega) ?_
        show Ex qm_lay _ mX9_canPaint 88 [some (.ref 55), some (.int (nI l)), some (.int (nI many)), some (.int (nI c)), some (.int (b2i (fq T l p c l))), some (.int (nI l))] [.int (b2i (cpt T many r (l + 1) (sp p l c)))] σ2 _ _
        refine ex_if_eq (q := 93) (q2 := 91) dX9_canPaint_88 rfl rfl (fun hh => absurd hh (b2i_n0.mpr (c2))) (fun _ => ?_)
        refine ex_iconst (x := 1) dX9_canPaint_91 rfl rfl ?_
        exact ex_zret dX9_canPaint_92 rfl (by decide) rfl rfl
      · rw [e0, c1, show cpt T many r (l + 1) (sp p l c) = false by simpa using c2]
        obtain ⟨σ3, hE, hp4, hs3⟩ := ih (c + 1) (some (.int (b2i (fq T l p c l)))) (some (.int (nI l))) rfl σ2 (by omega) (h1.sm hs2 (by omega) (by omega)) hp3
        refine ⟨σ3, ?_, hp4, (hg.tr hs2).tr hs3⟩
        refine ex_iload_n dX9_canPaint_12 rfl rfl ?_
        refine ex_iload_n dX9_canPaint_13 rfl rfl ?_
        refine ex_icmp_ge (q := 99) (q2 := 17) dX9_canPaint_14 rfl rfl (fun hh => absurd hh (nI_ge (a := c) (b := many) (by omega) (by omega))) (fun _ => ?_)
        refine ex_iconst (x := 1) dX9_canPaint_17 rfl rfl ?_
        refine ex_istore (ls' := [some (.ref 55), some (.int (nI l)), some (.int (nI many)), some (.int (nI c)), some (.int 1), y]) dX9_canPaint_18 rfl (Nat.le_of_ble_eq_true rfl) rfl rfl ?_
        refine ex_iconst (x := 0) dX9_canPaint_20 rfl rfl ?_
        refine ex_istore (ls' := [some (.ref 55), some (.int (nI l)), some (.int (nI many)), some (.int (nI c)), some (.int 1), some (.int 0)]) dX9_canPaint_21 rfl (Nat.le_of_ble_eq_true rfl) rfl rfl ?_
        refine l_canP1 hT h (show l < tn_L T by omega) (by omega) hpb hp (D := r + 1) l 0 (by omega) _ _ ?_
        refine ex_aload_n dX9_canPaint_68 rfl rfl ?_
        refine ex_getR (b := 75) dX9_canPaint_69 rfl qp_8_67 rfl rfl ?_
        refine ex_iload_n dX9_canPaint_72 rfl rfl ?_
        refine ex_iload_n dX9_canPaint_73 rfl rfl ?_
        refine ex_iastore (k := l) (σ' := qm_wF σ 61 l (nI c)) dX9_canPaint_74 rfl rfl (rfl) (by omega) (by decide) rfl ?_
        refine ex_iload dX9_canPaint_75 rfl rfl ?_
        refine ex_if_eq (q := 93) (q2 := 80) dX9_canPaint_77 rfl rfl (fun hh => absurd hh (b2i_n0.mpr (c1))) (fun _ => ?_)
        refine ex_aload_n dX9_canPaint_80 rfl rfl ?_
        refine ex_iload_n dX9_canPaint_81 rfl rfl ?_
        refine ex_iconst (x := 1) dX9_canPaint_82 rfl rfl ?_
        refine ex_iadd (z := nI (l + 1)) dX9_canPaint_83 rfl (nI_add l 1) ?_
        refine ex_iload_n dX9_canPaint_84 rfl rfl ?_
        refine ex_callV (a := 55) (rest := []) dX9_canPaint_85 rfl qp_8_259 rfl rfl rfl rfl rfl (Nat.le_of_ble_eq_true rfl) (hO) (by omega) ?_
        show Ex qm_lay _ mX9_canPaint 88 [some (.ref 55), some (.int (nI l)), some (.int (nI many)), some (.int (nI c)), some (.int (b2i (fq T l p c l))), some (.int (nI l))] [.int (b2i (cpt T many r (l + 1) (sp p l c)))] σ2 _ _
        refine ex_if_eq (q := 93) (q2 := 91) dX9_canPaint_88 rfl rfl (fun _ => ?_) (fun hh => absurd (b2i_0.mpr (by simpa using c2)) hh)
        refine ex_iinc (y := nI (c + 1)) (ls' := [some (.ref 55), some (.int (nI l)), some (.int (nI many)), some (.int (nI (c + 1))), some (.int (b2i (fq T l p c l))), some (.int (nI l))]) dX9_canPaint_93 rfl rfl rfl (nI_add c 1) rfl ?_
        refine ex_goto (q := 12) dX9_canPaint_96 rfl ?_
        exact hE
    · rw [e0, show fq T l p c l = false by simpa using c1]
      obtain ⟨σ3, hE, hp4, hs3⟩ := ih (c + 1) (some (.int (b2i (fq T l p c l)))) (some (.int (nI l))) rfl _ (by omega) h1 hp1
      refine ⟨σ3, ?_, hp4, hg.tr hs3⟩
      refine ex_iload_n dX9_canPaint_12 rfl rfl ?_
      refine ex_iload_n dX9_canPaint_13 rfl rfl ?_
      refine ex_icmp_ge (q := 99) (q2 := 17) dX9_canPaint_14 rfl rfl (fun hh => absurd hh (nI_ge (a := c) (b := many) (by omega) (by omega))) (fun _ => ?_)
      refine ex_iconst (x := 1) dX9_canPaint_17 rfl rfl ?_
      refine ex_istore (ls' := [some (.ref 55), some (.int (nI l)), some (.int (nI many)), some (.int (nI c)), some (.int 1), y]) dX9_canPaint_18 rfl (Nat.le_of_ble_eq_true rfl) rfl rfl ?_
      refine ex_iconst (x := 0) dX9_canPaint_20 rfl rfl ?_
      refine ex_istore (ls' := [some (.ref 55), some (.int (nI l)), some (.int (nI many)), some (.int (nI c)), some (.int 1), some (.int 0)]) dX9_canPaint_21 rfl (Nat.le_of_ble_eq_true rfl) rfl rfl ?_
      refine l_canP1 hT h (show l < tn_L T by omega) (by omega) hpb hp (D := r + 1) l 0 (by omega) _ _ ?_
      refine ex_aload_n dX9_canPaint_68 rfl rfl ?_
      refine ex_getR (b := 75) dX9_canPaint_69 rfl qp_8_67 rfl rfl ?_
      refine ex_iload_n dX9_canPaint_72 rfl rfl ?_
      refine ex_iload_n dX9_canPaint_73 rfl rfl ?_
      refine ex_iastore (k := l) (σ' := qm_wF σ 61 l (nI c)) dX9_canPaint_74 rfl rfl (rfl) (by omega) (by decide) rfl ?_
      refine ex_iload dX9_canPaint_75 rfl rfl ?_
      refine ex_if_eq (q := 93) (q2 := 80) dX9_canPaint_77 rfl rfl (fun _ => ?_) (fun hh => absurd (b2i_0.mpr (by simpa using c1)) hh)
      refine ex_iinc (y := nI (c + 1)) (ls' := [some (.ref 55), some (.int (nI l)), some (.int (nI many)), some (.int (nI (c + 1))), some (.int (b2i (fq T l p c l))), some (.int (nI l))]) dX9_canPaint_93 rfl rfl rfl (nI_add c 1) rfl ?_
      refine ex_goto (q := 12) dX9_canPaint_96 rfl ?_
      exact hE

set_option maxRecDepth 8000 in
set_option maxHeartbeats 2000000 in
theorem k_canPaint {T : tn_T} (hT : tn_ok T) {many : Nat} (hm : many ≤ 7) : ∀ (r : Nat), ∀ (l : Nat) (p : Nat → Nat) (σ : qm_St), l + r = tn_L T → MR σ T → (∀ q, q < l → p q < 8) → (∀ q, q < l → qm_rF σ 61 q = nI (p q)) → ∃ σ', Ok qm_lay (r + 2) mX9_canPaint [.ref 55, .int (nI l), .int (nI many)] σ (some (.int (b2i (cpt T many r l p)))) σ' ∧ (∀ q, q < l → qm_rF σ' 61 q = nI (p q)) ∧ sm σ σ' 36 36 61 62 := by
  have hL := hT.1
  intro r
  induction r with
  | zero =>
    intro l p σ hl h hpb hp
    refine ⟨σ, ?_, hp, sm.rf _ _ _ _ _⟩
    refine Ok.of (ls := [some (.ref 55), some (.int (nI l)), some (.int (nI many)), none, none, none]) (Nat.le_of_ble_eq_true rfl) rfl ?_
    refine ex_iload_n dX9_canPaint_0 rfl rfl ?_
    refine ex_aload_n dX9_canPaint_1 rfl rfl ?_
    refine ex_getI (s := 27) (x := nI (tn_L T)) dX9_canPaint_2 rfl qp_8_78 rfl rfl (h.1.1) ?_
    refine ex_icmp_ne (q := 10) (q2 := 8) dX9_canPaint_5 rfl rfl (fun hh => absurd hh (fun zz => zz (congrArg nI (show l = (tn_L T) by omega)))) (fun _ => ?_)
    refine ex_iconst (x := 1) dX9_canPaint_8 rfl rfl ?_
    exact ex_zret dX9_canPaint_9 rfl (by decide) rfl rfl
  | succ r IH =>
    intro l p σ hl h hpb hp
    obtain ⟨σ', hE, g1, g2⟩ := l_canP2 hT hm r IH hl hpb many 0 none none rfl σ (by omega) h hp
    refine ⟨σ', ?_, g1, g2⟩
    refine Ok.of (ls := [some (.ref 55), some (.int (nI l)), some (.int (nI many)), none, none, none]) (Nat.le_of_ble_eq_true rfl) rfl ?_
    refine ex_iload_n dX9_canPaint_0 rfl rfl ?_
    refine ex_aload_n dX9_canPaint_1 rfl rfl ?_
    refine ex_getI (s := 27) (x := nI (tn_L T)) dX9_canPaint_2 rfl qp_8_78 rfl rfl (h.1.1) ?_
    refine ex_icmp_ne (q := 10) (q2 := 8) dX9_canPaint_5 rfl rfl (fun _ => ?_) (fun hh => absurd (fun zz => absurd ((nI_eq (by omega) (by omega)).mp zz) (by omega)) hh)
    refine ex_iconst (x := 0) dX9_canPaint_10 rfl rfl ?_
    refine ex_istore_n (ls' := [some (.ref 55), some (.int (nI l)), some (.int (nI many)), some (.int 0), none, none]) dX9_canPaint_11 rfl (Nat.le_of_ble_eq_true rfl) rfl rfl ?_
    exact hE

set_option maxRecDepth 8000 in
set_option maxHeartbeats 2000000 in
theorem l_fewM {T : tn_T} (hT : tn_ok T) : ∀ (f n : Nat) (σ : qm_St), n + f = 7 → MR σ T → ∃ σ', Ex qm_lay 20 mX9_fewest 2 [some (.ref 55), some (.int (nI n))] [] σ (some (.int (nI (lst (fun m => cpt T m (tn_L T) 0 (fun _ => 0)) f n)))) σ' ∧ sm σ σ' 36 36 61 62 := by
  have hL := hT.1
  intro f
  induction f with
  | zero =>
    intro n σ hn h
    obtain ⟨σ1, hO, _, hs1⟩ := k_canPaint hT (many := n) (by omega) (tn_L T) 0 (fun _ => 0) σ (by omega) h (fun q hq => by omega) (fun q hq => by omega)
    have hn7 : n = 7 := by omega
    have c1 : cpt T n (tn_L T) 0 (fun _ => 0) = true := by rw [hn7]; exact cpt_7 hT _
    refine ⟨σ1, ?_, hs1⟩
    refine ex_aload_n dX9_fewest_2 rfl rfl ?_
    refine ex_iconst (x := 0) dX9_fewest_3 rfl rfl ?_
    refine ex_iload_n dX9_fewest_4 rfl rfl ?_
    refine ex_callV (a := 55) (rest := []) dX9_fewest_5 rfl qp_8_259 rfl rfl rfl rfl rfl (Nat.le_of_ble_eq_true rfl) (hO) (by omega) ?_
    show Ex qm_lay _ mX9_fewest 8 [some (.ref 55), some (.int (nI n))] [.int (b2i (cpt T n (tn_L T) 0 (fun _ => 0)))] σ1 _ _
    refine ex_if_ne (q := 17) (q2 := 11) dX9_fewest_8 rfl rfl (fun _ => ?_) (fun hh => absurd (b2i_n0.mpr (c1)) hh)
    refine ex_iload_n dX9_fewest_17 rfl rfl ?_
    exact ex_iret dX9_fewest_18 rfl rfl rfl
  | succ f ih =>
    intro n σ hn h
    obtain ⟨σ1, hO, _, hs1⟩ := k_canPaint hT (many := n) (by omega) (tn_L T) 0 (fun _ => 0) σ (by omega) h (fun q hq => by omega) (fun q hq => by omega)
    by_cases c1 : cpt T n (tn_L T) 0 (fun _ => 0) = true
    · rw [show lst (fun m => cpt T m (tn_L T) 0 (fun _ => 0)) (f + 1) n = n by rw [lst, if_pos c1]]
      refine ⟨σ1, ?_, hs1⟩
      refine ex_aload_n dX9_fewest_2 rfl rfl ?_
      refine ex_iconst (x := 0) dX9_fewest_3 rfl rfl ?_
      refine ex_iload_n dX9_fewest_4 rfl rfl ?_
      refine ex_callV (a := 55) (rest := []) dX9_fewest_5 rfl qp_8_259 rfl rfl rfl rfl rfl (Nat.le_of_ble_eq_true rfl) (hO) (by omega) ?_
      show Ex qm_lay _ mX9_fewest 8 [some (.ref 55), some (.int (nI n))] [.int (b2i (cpt T n (tn_L T) 0 (fun _ => 0)))] σ1 _ _
      refine ex_if_ne (q := 17) (q2 := 11) dX9_fewest_8 rfl rfl (fun _ => ?_) (fun hh => absurd (b2i_n0.mpr (c1)) hh)
      refine ex_iload_n dX9_fewest_17 rfl rfl ?_
      exact ex_iret dX9_fewest_18 rfl rfl rfl
    · rw [show lst (fun m => cpt T m (tn_L T) 0 (fun _ => 0)) (f + 1) n = lst (fun m => cpt T m (tn_L T) 0 (fun _ => 0)) f (n + 1) by rw [lst, if_neg c1]]
      obtain ⟨σ2, hE, hs2⟩ := ih (n + 1) σ1 (by omega) (h.sm hs1 (by omega) (by omega))
      refine ⟨σ2, ?_, hs1.tr hs2⟩
      refine ex_aload_n dX9_fewest_2 rfl rfl ?_
      refine ex_iconst (x := 0) dX9_fewest_3 rfl rfl ?_
      refine ex_iload_n dX9_fewest_4 rfl rfl ?_
      refine ex_callV (a := 55) (rest := []) dX9_fewest_5 rfl qp_8_259 rfl rfl rfl rfl rfl (Nat.le_of_ble_eq_true rfl) (hO) (by omega) ?_
      show Ex qm_lay _ mX9_fewest 8 [some (.ref 55), some (.int (nI n))] [.int (b2i (cpt T n (tn_L T) 0 (fun _ => 0)))] σ1 _ _
      refine ex_if_ne (q := 17) (q2 := 11) dX9_fewest_8 rfl rfl (fun hh => absurd hh (fun zz => zz (b2i_0.mpr (by simpa using c1)))) (fun _ => ?_)
      refine ex_iinc (y := nI (n + 1)) (ls' := [some (.ref 55), some (.int (nI (n + 1)))]) dX9_fewest_11 rfl rfl rfl (nI_add n 1) rfl ?_
      refine ex_goto (q := 2) dX9_fewest_14 rfl ?_
      exact hE

set_option maxRecDepth 8000 in
set_option maxHeartbeats 2000000 in
theorem j_fewest {T : tn_T} {X : gx_T} {P : gt_T} {Im : gi_T} {S : gs_T} (hG : gg_ok (T, X, P, Im, S))  : J mX8_fewest mX9_fewest [] (T, X, P, Im, S) := by
  have hT : tn_ok T := hG.1
  have hX : gx_ok X := hG.2.1
  have hP : gt_ok P := hG.2.2.1
  have hI : gi_ok T (gx_n X) Im := hG.2.2.2.1
  have hS : gs_ok S := hG.2.2.2.2.1
  have hw : tn_w T < gx_n X := hG.2.2.2.2.2
  have hL := hT.1
  have hw6 := hT.2.1
  have hu := tn_u_lt hT
  have hX6 := hX.2.1
  have hP6 := hP.1
  refine J.u (.int (nI (few T))) (T, X, P, Im, S) hG (fun σ hC => ?_) (fun σ hM => ?_)
  · have h : TR σ 9 18 T := hC.1
    obtain ⟨σ', hO, hs1⟩ := c_fewestColours hT h
    refine ⟨σ', ?_, CG.aux hG hC (hs1.wid (by omega) (by omega)), hs1.wid (by omega) (by omega)⟩
    refine Ok.of (ls := [some (.ref 54)]) (Nat.le_of_ble_eq_true rfl) rfl ?_
    refine ex_aload_n dX8_fewest_0 rfl rfl ?_
    refine ex_getR (b := 51) dX8_fewest_1 rfl qp_7_57 rfl rfl ?_
    refine ex_aload_n dX8_fewest_4 rfl rfl ?_
    refine ex_getR (b := 22) dX8_fewest_5 rfl qp_7_10 rfl rfl ?_
    refine ex_callV (a := 51) (rest := []) dX8_fewest_8 rfl qp_7_186 rfl rfl rfl rfl rfl (Nat.le_of_ble_eq_true rfl) (hO) (Nat.le_of_ble_eq_true rfl) ?_
    show Ex qm_lay _ mX8_fewest 11 [some (.ref 54)] [.int (nI (few T))] σ' _ _
    exact ex_iret dX8_fewest_11 rfl rfl rfl
  · have h : MR σ T := hM.1
    obtain ⟨σ', hE, hs1⟩ := l_fewM hT 7 0 σ (by omega) h
    refine ⟨σ', ?_, MG.aux hM (hs1.wid (by omega) (by omega)), hs1.wid (by omega) (by omega)⟩
    refine Ok.of (ls := [some (.ref 55), none]) (Nat.le_of_ble_eq_true rfl) rfl ?_
    refine ex_iconst (x := 0) dX9_fewest_0 rfl rfl ?_
    refine ex_istore_n (ls' := [some (.ref 55), some (.int 0)]) dX9_fewest_1 rfl (Nat.le_of_ble_eq_true rfl) rfl rfl ?_
    exact hE.mono (by decide)

