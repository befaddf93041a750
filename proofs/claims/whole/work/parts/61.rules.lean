/-! ===== orders by rules ===== -/
/-- by what a rule orders: 0 by numbers, 1 beside most, 2 beside fewest first -/
def ky (T : tn_T) (s l : Nat) : Nat := if s = 0 then 0 else if s = 1 then 12 - tn_pc (tn_b T l) else tn_pc (tn_b T l)
def sgI (s : Nat) : Int32 := if s = 0 then 0 else if s = 1 then -1 else 1
def rkI (T : tn_T) (s l : Nat) : Int32 := sgI s * nI (tn_pc (tn_b T l))
theorem rk_dec : ∀ s, s < 3 → ∀ a, a < 13 → (sgI s * nI a < 2147483647) ∧ ∀ b, b < 13 → ((sgI s * nI a < sgI s * nI b) ↔ ((if s = 0 then 0 else if s = 1 then 12 - a else a) < (if s = 0 then 0 else if s = 1 then 12 - b else b))) := by decide +kernel
theorem rk_max (T : tn_T) {s : Nat} (hs : s < 3) (l : Nat) : rkI T s l < 2147483647 := (rk_dec s hs (tn_pc (tn_b T l)) (Nat.lt_succ_of_le (tn_pk_le _ 12))).1
theorem rk_lt (T : tn_T) {s : Nat} (hs : s < 3) (l m : Nat) : rkI T s l < rkI T s m ↔ ky T s l < ky T s m := (rk_dec s hs (tn_pc (tn_b T l)) (Nat.lt_succ_of_le (tn_pk_le _ 12))).2 (tn_pc (tn_b T m)) (Nat.lt_succ_of_le (tn_pk_le _ 12))
def lrb (key : Nat → Nat) (m : Option Nat) (k : Nat) : Bool := m.elim true fun q => decide (key k < key q)
def lr (key : Nat → Nat) (bits : Nat) : Nat → Nat → Option Nat → Option Nat
  | 0, _, m => m
  | r + 1, k, m => lr key bits r (k + 1) (if (bits.testBit k && lrb key m k) = true then some k else m)
/-- the least of some, of like ones the first -/
theorem lr_ok (key : Nat → Nat) (bits : Nat) : ∀ (r k : Nat) (m : Option Nat), (∀ q, m = some q → bits.testBit q = true ∧ q < k ∧ ∀ j, j < k → bits.testBit j = true → (j < q → key q < key j) ∧ key q ≤ key j) → (m = none → ∀ j, j < k → bits.testBit j = false) → (∀ q, lr key bits r k m = some q → bits.testBit q = true ∧ q < k + r ∧ ∀ j, j < k + r → bits.testBit j = true → (j < q → key q < key j) ∧ key q ≤ key j) ∧ (lr key bits r k m = none → ∀ j, j < k + r → bits.testBit j = false)
  | 0, _, _, h1, h2 => ⟨h1, h2⟩
  | r + 1, k, m, h1, h2 => by
    have e : k + (r + 1) = k + 1 + r := by omega
    rw [lr, e]
    refine lr_ok key bits r (k + 1) _ (fun q hq => ?_) (fun hn => ?_)
    · by_cases c : (bits.testBit k && lrb key m k) = true
      · rw [if_pos c] at hq
        rw [Bool.and_eq_true] at c
        rw [← Option.some.inj hq]
        refine ⟨c.1, Nat.lt_succ_self k, fun j hj hb => ?_⟩
        cases m with
        | none =>
          have e2 : j = k := by
            rcases Nat.lt_or_ge j k with z | z
            · rw [h2 rfl j z] at hb; cases hb
            · omega
          exact ⟨fun z => by omega, by rw [e2]; exact Nat.le_refl _⟩
        | some p =>
          have c2 : key k < key p := of_decide_eq_true c.2
          obtain ⟨g1, g2, g3⟩ := h1 p rfl
          rcases Nat.lt_or_ge j k with z | z
          · have := (g3 j z hb).2
            exact ⟨fun _ => by omega, by omega⟩
          · have e2 : j = k := by omega
            exact ⟨fun z => by omega, by rw [e2]; exact Nat.le_refl _⟩
      · rw [if_neg c] at hq
        obtain ⟨g1, g2, g3⟩ := h1 q hq
        refine ⟨g1, by omega, fun j hj hb => ?_⟩
        rcases Nat.lt_or_ge j k with z | z
        · exact g3 j z hb
        · have e2 : j = k := by omega
          rw [e2] at hb ⊢
          refine ⟨fun z => by omega, ?_⟩
          rcases Nat.lt_or_ge (key k) (key q) with y | y
          · refine absurd ?_ c
            rw [hb, hq]
            exact decide_eq_true y
          · exact y
    · by_cases c : (bits.testBit k && lrb key m k) = true
      · rw [if_pos c] at hn; cases hn
      · rw [if_neg c] at hn
        intro j hj
        rcases Nat.lt_or_ge j k with z | z
        · exact h2 hn j z
        · have e2 : j = k := by omega
          rw [e2]
          cases hz : bits.testBit k with
          | false => rfl
          | true =>
            refine absurd ?_ c
            rw [hz, hn]; rfl
def lf (key : Nat → Nat) (bits : Nat) : Nat := (lr key bits 7 0 none).getD 0
theorem lf_ok {key : Nat → Nat} {bits : Nat} (hb : bits < 128) (h0 : bits ≠ 0) : lr key bits 7 0 none = some (lf key bits) ∧ bits.testBit (lf key bits) = true ∧ lf key bits < 7 ∧ ∀ j, j < 7 → bits.testBit j = true → (j < lf key bits → key (lf key bits) < key j) ∧ key (lf key bits) ≤ key j := by
  obtain ⟨g1, g2⟩ := lr_ok key bits 7 0 none (fun q h => by cases h) (fun _ j hj => by omega)
  unfold lf
  cases e : lr key bits 7 0 none with
  | none =>
    refine absurd (bit_ext7 hb (by decide) (fun j hj => ?_)) h0
    rw [Nat.zero_testBit]
    exact g2 e j (by omega)
  | some q =>
    obtain ⟨k1, k2, k3⟩ := g1 q e
    exact ⟨rfl, k1, by show q < 7; omega, fun j hj h => k3 j (by omega) h⟩
def sel (key : Nat → Nat) : Nat → Nat → List Nat
  | 0, _ => []
  | n + 1, bits => if bits = 0 then [] else lf key bits :: sel key n (tn_cl bits (lf key bits))
/-- ahead of: by the key, then by numbers -/
def RO (key : Nat → Nat) (a b : Nat) : Prop := key a < key b ∨ (key a = key b ∧ a < b)
theorem RO.asym {key : Nat → Nat} {a b : Nat} (h : RO key a b) (g : RO key b a) : False := by
  unfold RO at h g; omega
theorem RO.trans {key : Nat → Nat} {a b c : Nat} (h : RO key a b) (g : RO key b c) : RO key a c := by
  unfold RO at h g ⊢; omega
def pw (R : Nat → Nat → Prop) : List Nat → Prop
  | [] => True
  | a :: t => (∀ x ∈ t, R a x) ∧ pw R t
theorem pw_uniq {key : Nat → Nat} : ∀ (A B : List Nat), pw (RO key) A → pw (RO key) B → (∀ x, x ∈ A ↔ x ∈ B) → A = B
  | [], [], _, _, _ => rfl
  | [], b :: B, _, _, h => by have := (h b).mpr List.mem_cons_self; cases this
  | a :: A, [], _, _, h => by have := (h a).mp List.mem_cons_self; cases this
  | a :: A, b :: B, hA, hB, h => by
    have e : a = b := by
      rcases List.mem_cons.mp ((h a).mp List.mem_cons_self) with g | g
      · exact g
      · rcases List.mem_cons.mp ((h b).mpr List.mem_cons_self) with k | k
        · exact k.symm
        · exact (RO.asym (hA.1 b k) (hB.1 a g)).elim
    subst e
    rw [pw_uniq A B hA.2 hB.2 (fun x => ?_)]
    constructor
    · intro hx
      rcases List.mem_cons.mp ((h x).mp (List.mem_cons_of_mem _ hx)) with g | g
      · subst g; exact (RO.asym (hA.1 x hx) (hA.1 x hx)).elim
      · exact g
    · intro hx
      rcases List.mem_cons.mp ((h x).mpr (List.mem_cons_of_mem _ hx)) with g | g
      · subst g; exact (RO.asym (hB.1 x hx) (hB.1 x hx)).elim
      · exact g
theorem sel_ok (key : Nat → Nat) : ∀ (n bits : Nat), bits < 128 → tn_pc bits ≤ n → (∀ x, x ∈ sel key n bits ↔ (x < 7 ∧ bits.testBit x = true)) ∧ pw (RO key) (sel key n bits)
  | 0, bits, hb, hn => by
    have h0 : bits = 0 := tn_pc_0 bits hb (by omega)
    subst h0
    refine ⟨fun x => ⟨fun h => (by cases h), fun h => ?_⟩, trivial⟩
    rw [Nat.zero_testBit] at h
    cases h.2
  | n + 1, bits, hb, hn => by
    rw [sel]
    by_cases c : bits = 0
    · rw [if_pos c, c]
      refine ⟨fun x => ⟨fun h => (by cases h), fun h => ?_⟩, trivial⟩
      rw [Nat.zero_testBit] at h
      cases h.2
    · rw [if_neg c]
      obtain ⟨_, g1, g2, g3⟩ := lf_ok (key := key) hb c
      have hp := tn_pc_cl (lf key bits) g2 bits hb g1
      obtain ⟨i1, i2⟩ := sel_ok key n (tn_cl bits (lf key bits)) (tn_cl_lt hb) (by omega)
      refine ⟨fun x => ?_, fun x hx => ?_, i2⟩
      · rw [List.mem_cons, i1]
        constructor
        · rintro (h | ⟨h1, h2⟩)
          · rw [h]; exact ⟨g2, g1⟩
          · rw [tn_cl_tb _ g2 x h1 bits hb, Bool.and_eq_true] at h2
            exact ⟨h1, h2.1⟩
        · rintro ⟨h1, h2⟩
          by_cases e : x = lf key bits
          · exact Or.inl e
          · refine Or.inr ⟨h1, ?_⟩
            rw [tn_cl_tb _ g2 x h1 bits hb, h2, decide_eq_false e]
            rfl
      · obtain ⟨h1, h2⟩ := (i1 x).mp hx
        rw [tn_cl_tb _ g2 x h1 bits hb, Bool.and_eq_true] at h2
        have hne : ¬ x = lf key bits := by
          have := h2.2
          intro e
          rw [decide_eq_true e] at this
          cases this
        obtain ⟨k1, k2⟩ := g3 x h1 h2.1
        unfold RO
        rcases Nat.lt_trichotomy x (lf key bits) with z | z | z
        · exact Or.inl (k1 z)
        · exact absurd z hne
        · omega
theorem pw_of {R : Nat → Nat → Prop} : ∀ (A : List Nat), (∀ i j, i < j → j < A.length → R (A.getD i 0) (A.getD j 0)) → pw R A
  | [], _ => trivial
  | a :: A, h => by
    refine ⟨fun x hx => ?_, pw_of A (fun i j hij hj => h (i + 1) (j + 1) (by omega) (by rw [List.length_cons]; omega))⟩
    obtain ⟨i, hi, e⟩ := List.getElem_of_mem hx
    have := h 0 (i + 1) (by omega) (by rw [List.length_cons]; omega)
    have e2 : (a :: A).getD (i + 1) 0 = x := by
      show A.getD i 0 = x
      rw [List.getD_eq_getElem?_getD, List.getElem?_eq_getElem hi, ← e]
      rfl
    rw [e2] at this
    exact this
theorem pw_at {R : Nat → Nat → Prop} : ∀ (A : List Nat), pw R A → ∀ i j, i < j → j < A.length → R (A.getD i 0) (A.getD j 0)
  | [], _, i, j, _, hj => by cases hj
  | a :: A, h, 0, 0, hij, _ => by omega
  | a :: A, h, 0, j + 1, _, hj => h.1 _ (getD_mem (by rw [List.length_cons] at hj; omega))
  | a :: A, h, i + 1, 0, hij, _ => by omega
  | a :: A, h, i + 1, j + 1, hij, hj => pw_at A h.2 i j (by omega) (by rw [List.length_cons] at hj; omega)
theorem bl_pw (L b : Nat) : pw (fun a c => a < c) (bl L b) := by
  have key : ∀ (r k : Nat), pw (fun a c => a < c) ((List.range' k r).filter fun l => b.testBit l) ∧ ∀ x ∈ (List.range' k r).filter (fun l => b.testBit l), k ≤ x := by
    intro r
    induction r with
    | zero => intro k; exact ⟨trivial, fun x hx => by cases hx⟩
    | succ r ih =>
      intro k
      obtain ⟨h1, h2⟩ := ih (k + 1)
      rw [List.range'_succ, List.filter_cons]
      by_cases c : b.testBit k = true
      · rw [if_pos c]
        refine ⟨⟨fun x hx => h2 x hx, h1⟩, fun x hx => ?_⟩
        rcases List.mem_cons.mp hx with e | e
        · rw [e]; exact Nat.le_refl k
        · have := h2 x e; omega
      · rw [if_neg c]
        exact ⟨h1, fun x hx => by have := h2 x hx; omega⟩
  unfold bl
  rw [List.range_eq_range']
  exact (key L 0).1
/-- the other side's sorting -/
def ps1 (key : Nat → Nat) : Nat → List Nat → List Nat
  | 0, os => os
  | o + 1, os => ps1 key o (if key (os.getD (o + 1) 0) < key (os.getD o 0) then sw os o (o + 1) else os)
def srt (key : Nat → Nat) : Nat → Nat → List Nat → List Nat
  | 0, _, os => os
  | r + 1, k, os => srt key r (k + 1) (ps1 key k os)
theorem sw_memi {os : List Nat} {a b : Nat} (ha : a < os.length) (hb : b < os.length) (x : Nat) : x ∈ sw os a b ↔ x ∈ os := by
  constructor
  · intro h
    rcases List.mem_or_eq_of_mem_set h with h1 | h1
    · rcases List.mem_or_eq_of_mem_set h1 with h2 | h2
      · exact h2
      · rw [h2]; exact getD_mem hb
    · rw [h1]; exact getD_mem ha
  · intro h
    obtain ⟨i, hi, e⟩ := List.getElem_of_mem h
    have e2 : os.getD i 0 = x := by rw [List.getD_eq_getElem?_getD, List.getElem?_eq_getElem hi, ← e]; rfl
    have key : ∀ j, j < os.length → (sw os a b).getD j 0 = x → x ∈ sw os a b := fun j hj e3 => by
      rw [← e3]; exact getD_mem (by rw [sw_len]; exact hj)
    by_cases c1 : i = a
    · exact key b hb (by rw [sw_at ha hb, if_pos rfl, ← c1]; exact e2)
    · by_cases c2 : i = b
      · by_cases c3 : b = a
        · exact absurd (c2.trans c3) c1
        · exact key a ha (by rw [sw_at ha hb, if_neg c3, if_pos rfl, ← c2]; exact e2)
      · exact key i hi (by rw [sw_at ha hb, if_neg (fun z => c2 z.symm), if_neg (fun z => c1 z.symm)]; exact e2)
theorem ps1_ok (key : Nat → Nat) {k : Nat} : ∀ (o : Nat) (os : List Nat), o ≤ k → k < os.length →
    ((∀ i j, i < j → j ≤ k → j ≠ o → RO key (os.getD i 0) (os.getD j 0)) ∧ (∀ i, i ≤ k → i ≠ o → os.getD i 0 < os.getD o 0)) ∨ (∀ i j, i < j → j ≤ k → RO key (os.getD i 0) (os.getD j 0)) →
    (ps1 key o os).length = os.length ∧ (∀ x, x ∈ ps1 key o os ↔ x ∈ os) ∧ (∀ j, k < j → j < os.length → (ps1 key o os).getD j 0 = os.getD j 0) ∧ (∀ i j, i < j → j ≤ k → RO key ((ps1 key o os).getD i 0) ((ps1 key o os).getD j 0)) ∧ ∀ i, i ≤ k → ∃ u, u ≤ k ∧ (ps1 key o os).getD i 0 = os.getD u 0
  | 0, os, _, _, h => by
    refine ⟨rfl, fun _ => Iff.rfl, fun _ _ _ => rfl, fun i j h1 h2 => ?_, fun i hi => ⟨i, hi, rfl⟩⟩
    rcases h with h | h
    · exact h.1 i j h1 h2 (by omega)
    · exact h i j h1 h2
  | o + 1, os, ho, hk, h => by
    have h1o : o + 1 < os.length := by omega
    have h0o : o < os.length := by omega
    rw [ps1]
    by_cases c : key (os.getD (o + 1) 0) < key (os.getD o 0)
    · rw [if_pos c]
      rcases h with ⟨h1, h2⟩ | h
      · have hat : ∀ i, (sw os o (o + 1)).getD i 0 = if o + 1 = i then os.getD o 0 else if o = i then os.getD (o + 1) 0 else os.getD i 0 := fun i => sw_at h0o h1o
        have hI : (∀ i j, i < j → j ≤ k → j ≠ o → RO key ((sw os o (o + 1)).getD i 0) ((sw os o (o + 1)).getD j 0)) ∧ (∀ i, i ≤ k → i ≠ o → (sw os o (o + 1)).getD i 0 < (sw os o (o + 1)).getD o 0) := by
          refine ⟨fun i j hij hj hne => ?_, fun i hi hne => ?_⟩
          · rw [hat, hat]
            by_cases e1 : o + 1 = j
            · rw [if_pos e1]
              by_cases e2 : o + 1 = i
              · omega
              · rw [if_neg e2]
                by_cases e3 : o = i
                · rw [if_pos e3]; exact Or.inl c
                · rw [if_neg e3]; exact h1 i o (by omega) (by omega) (by omega)
            · rw [if_neg e1, if_neg (show ¬ o = j from fun z => hne z.symm)]
              by_cases e2 : o + 1 = i
              · rw [if_pos e2]; exact h1 o j (by omega) hj (fun z => e1 z.symm)
              · rw [if_neg e2]
                by_cases e3 : o = i
                · rw [if_pos e3]; exact h1 (o + 1) j (by omega) hj (fun z => e1 z.symm)
                · rw [if_neg e3]; exact h1 i j hij hj (fun z => e1 z.symm)
          · rw [hat, hat, if_neg (show ¬ o + 1 = o by omega), if_pos rfl]
            by_cases e1 : o + 1 = i
            · rw [if_pos e1]; exact h2 o (by omega) (by omega)
            · rw [if_neg e1, if_neg (show ¬ o = i from fun z => hne z.symm)]
              exact h2 i hi (fun z => e1 z.symm)
        obtain ⟨g1, g2, g3, g4, g5⟩ := ps1_ok key (k := k) o (sw os o (o + 1)) (by omega) (by rw [sw_len]; omega) (Or.inl hI)
        refine ⟨by rw [g1, sw_len], fun x => (g2 x).trans (sw_memi h0o h1o x), fun j hj hjl => ?_, g4, fun i hi => ?_⟩
        · rw [g3 j hj (by rw [sw_len]; exact hjl), hat, if_neg (by omega), if_neg (by omega)]
        · obtain ⟨u, hu, e⟩ := g5 i hi
          rw [e, hat]
          by_cases e1 : o + 1 = u
          · rw [if_pos e1]; exact ⟨o, by omega, rfl⟩
          · rw [if_neg e1]
            by_cases e2 : o = u
            · rw [if_pos e2]; exact ⟨o + 1, ho, rfl⟩
            · rw [if_neg e2]; exact ⟨u, hu, rfl⟩
      · have := h o (o + 1) (by omega) ho
        unfold RO at this
        omega
    · rw [if_neg c]
      refine ps1_ok key (k := k) o os (by omega) hk (Or.inr (fun i j hij hj => ?_))
      rcases h with ⟨h1, h2⟩ | h
      · by_cases e1 : j = o + 1
        · have hx : RO key (os.getD o 0) (os.getD (o + 1) 0) := by
            have := h2 o (by omega) (by omega)
            unfold RO; omega
          rw [e1]
          by_cases e2 : i = o
          · rw [e2]; exact hx
          · exact (h1 i o (by omega) (by omega) (by omega)).trans hx
        · exact h1 i j hij hj e1
      · exact h i j hij hj
theorem srt_ok (key : Nat → Nat) : ∀ (r k : Nat) (os : List Nat), k + r = os.length → 1 ≤ k → (∀ i j, i < j → j < k → RO key (os.getD i 0) (os.getD j 0)) → (∀ i j, i < j → j < os.length → k ≤ j → os.getD i 0 < os.getD j 0) → (∀ x, x ∈ srt key r k os ↔ x ∈ os) ∧ (srt key r k os).length = os.length ∧ pw (RO key) (srt key r k os)
  | 0, k, os, hk, _, h, _ => ⟨fun _ => Iff.rfl, rfl, pw_of os (fun i j hij hj => h i j hij (by omega))⟩
  | r + 1, k, os, hk, h1, h, g => by
    rw [srt]
    obtain ⟨p1, p2, p3, p4, p5⟩ := ps1_ok key (k := k) k os (Nat.le_refl k) (by omega) (Or.inl ⟨fun i j hij hj hne => h i j hij (by omega), fun i hi hne => g i k (by omega) (by omega) (Nat.le_refl k)⟩)
    obtain ⟨q1, q2, q3⟩ := srt_ok key r (k + 1) (ps1 key k os) (by rw [p1]; omega) (by omega) (fun i j hij hj => p4 i j hij (by omega)) (fun i j hij hj hkj => by
      rw [p1] at hj
      rw [p3 j (by omega) hj]
      by_cases c : k < i
      · rw [p3 i c (by omega)]; exact g i j hij hj (by omega)
      · obtain ⟨u, hu, e⟩ := p5 i (by omega)
        rw [e]
        exact g u j (by omega) hj (by omega))
    exact ⟨fun x => (q1 x).trans (p2 x), q2.trans p1, q3⟩
/-- both ways to the same order -/
theorem sel_srt {key : Nat → Nat} {b : Nat} (hb : b < 128) : srt key ((bl 7 b).length - 1) 1 (bl 7 b) = sel key 7 b := by
  obtain ⟨s1, s2⟩ := sel_ok key 7 b hb (tn_pc_7 b hb)
  by_cases c : (bl 7 b).length = 0
  · have e : bl 7 b = [] := List.eq_nil_of_length_eq_zero c
    rw [e]
    have e2 : sel key 7 b = [] := by
      cases hz : sel key 7 b with
      | nil => rfl
      | cons a t =>
        have hm := (s1 a).mp (by rw [hz]; exact List.mem_cons_self)
        have : a ∈ bl 7 b := List.mem_filter.mpr ⟨List.mem_range.mpr hm.1, hm.2⟩
        rw [e] at this
        cases this
    rw [e2]
    rfl
  · obtain ⟨q1, q2, q3⟩ := srt_ok key ((bl 7 b).length - 1) 1 (bl 7 b) (by omega) (Nat.le_refl 1) (fun i j h1 h2 => by omega) (fun i j h1 h2 _ => pw_at _ (bl_pw 7 b) i j h1 h2)
    refine pw_uniq _ _ q3 s2 (fun x => ?_)
    rw [q1, s1]
    exact ⟨fun h => bl_mem h, fun h => List.mem_filter.mpr ⟨List.mem_range.mpr h.1, h.2⟩⟩
theorem sel_0 {b : Nat} (hb : b < 128) : sel (fun _ => 0) 7 b = bl 7 b := by
  obtain ⟨s1, s2⟩ := sel_ok (fun _ => 0) 7 b hb (tn_pc_7 b hb)
  refine pw_uniq _ _ s2 (pw_of _ (fun i j h1 h2 => Or.inr ⟨rfl, pw_at _ (bl_pw 7 b) i j h1 h2⟩)) (fun x => ?_)
  rw [s1]
  exact ⟨fun h => List.mem_filter.mpr ⟨List.mem_range.mpr h.1, h.2⟩, fun h => bl_mem h⟩
/-- where a lot stands -/
def pof (os : List Nat) (l : Nat) : Nat → Nat → Nat
  | 0, _ => 0
  | r + 1, k => if os.getD k 0 = l then k else pof os l r (k + 1)
def pl (os : List Nat) (l : Nat) : Nat := pof os l os.length 0
theorem pof_ok {os : List Nat} {l : Nat} : ∀ (r k : Nat), k + r = os.length → (∃ i, k ≤ i ∧ i < os.length ∧ os.getD i 0 = l) → pof os l r k < os.length ∧ os.getD (pof os l r k) 0 = l
  | 0, k, hk, ⟨i, h1, h2, _⟩ => by omega
  | r + 1, k, hk, ⟨i, h1, h2, h3⟩ => by
    rw [pof]
    by_cases c : os.getD k 0 = l
    · rw [if_pos c]; exact ⟨by omega, c⟩
    · rw [if_neg c]
      refine pof_ok r (k + 1) (by omega) ⟨i, ?_, h2, h3⟩
      rcases Nat.lt_or_ge k i with z | z
      · omega
      · exact absurd (by rw [show k = i by omega]; exact h3) c
theorem mem_getD {os : List Nat} {l : Nat} (h : l ∈ os) : ∃ i, i < os.length ∧ os.getD i 0 = l := by
  obtain ⟨i, hi, e⟩ := List.getElem_of_mem h
  exact ⟨i, hi, by rw [List.getD_eq_getElem?_getD, List.getElem?_eq_getElem hi, ← e]; rfl⟩
theorem pl_ok {os : List Nat} {l : Nat} (h : l ∈ os) : pl os l < os.length ∧ os.getD (pl os l) 0 = l := by
  obtain ⟨i, hi, e⟩ := mem_getD h
  exact pof_ok os.length 0 (by omega) ⟨i, Nat.zero_le i, hi, e⟩
theorem OR.sw {σ : qm_St} {os : List Nat} (h : OR σ os) {a b : Nat} (ha : a < os.length) (hb : b < os.length) : OR (qm_wF (qm_wF σ 39 a (nI (os.getD b 0))) 39 b (nI (os.getD a 0))) (sw os a b) := by
  refine ⟨by rw [sw_len]; exact h.1, by rw [sw_len]; exact h.2.1, fun i hi => ?_⟩
  rw [sw_len] at hi
  rw [sw_at ha hb]
  by_cases e : b = i
  · subst e; rw [rF_eq, if_pos rfl]
  · rw [if_neg e, rF_ne (Or.inr (fun z => e z.symm))]
    by_cases e2 : a = i
    · subst e2; rw [rF_eq, if_pos rfl]
    · rw [if_neg e2, rF_ne (Or.inr (fun z => e2 z.symm))]
      exact h.2.2 i hi
/-- what the first house is worth in an order -/
def wo (T : tn_T) (X : gx_T) (l : Nat) (os : List Nat) : Int32 := sx_says T X 0 l (nI (tn_wd (tn_bl T (os.take (pl os l))) l)) (nI (pl os l))
