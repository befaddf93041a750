/-! ===== orders by rules ===== -/
/-- by what a rule orders: 0 by numbers, 1 beside most, 2 beside fewest first -/
def ky (T : tn_T) (s l : Nat) : Nat := if s = 0 then 0 else if s = 1 then 12 - tn_pc (tn_b T l) else tn_pc (tn_b T l)
def sgI (s : Nat) : Int32 := if s = 0 then 0 else if s = 1 then -1 else 1
def rkI (T : tn_T) (s l : Nat) : Int32 := sgI s * nI (tn_pc (tn_b T l))
theorem rk_dec : ∀ s, s < 3 → ∀ a, a < 13 → (sgI s * nI a < 2147483647) ∧ ∀ b, b < 13 → ((sgI s * nI a < sgI s * nI b) ↔ ((if s = 0 then 0 else if s = 1 then 12 - a else a) < (if s = 0 then 0 else if s = 1 then 12 - b else b))) := by decide +kernel
theorem rk_max (T : tn_T) {s : Nat} (hs : s < 3) (l : Nat) : rkI T s l < 2147483647 := (rk_dec s hs (tn_pc (tn_b T l)) (Nat.lt_succ_of_le (tn_pk_le _ 12))).1
theorem rk_lt (T : tn_T) {s : Nat} (hs : s < 3) (l m : Nat) : rkI T s l < rkI T s m ↔ ky T s l < ky T s m := (rk_dec s hs (tn_pc (tn_b T l)) (Nat.lt_succ_of_le (tn_pk_le _ 12))).2 (tn_pc (tn_b T m)) (Nat.lt_succ_of_le (tn_pk_le _ 12))
def lrb (key : Nat → Nat) (m : Option Nat) (k : Nat) : Bool := m.elim true fun q => decide (key k < key q)
def lr (key : Nat → Nat) (bits : Nat) : Nat → Nat → Option Nat → Option Nat
  | 0, _, m => m
  | r + 1, k, m => lr key bits r (k + 1) (if (bits.testBit k && lrb key m k) = true then some k else m)
/-- the least of some, of like ones the first -/
theorem lr_ok (key : Nat → Nat) (bits : Nat) : ∀ (r k : Nat) (m : Option Nat), (∀ q, m = some q → bits.testBit q = true ∧ q < k ∧ ∀ j, j < k → bits.testBit j = true → (j < q → key q < key j) ∧ key q ≤ key j) → (m = none → ∀ j, j < k → bits.testBit j = false) → (∀ q, lr key bits r k m = some q → bits.testBit q = true ∧ q < k + r ∧ ∀ j, j < k + r → bits.testBit j = true → (j < q → key q < key j) ∧ key q ≤ key j) ∧ (lr key bits r k m = none → ∀ j, j < k + r → bits.testBit j = false)
  | 0, _, _, h1, h2 => ⟨h1, h2⟩
  | r + 1, k, m, h1, h2 => by
    have e : k + (r + 1) = k + 1 + r := by omega
    rw [lr, e]
    refine lr_ok key bits r (k + 1) _ (fun q hq => ?_) (fun hn => ?_)
    · by_cases c : (bits.testBit k && lrb key m k) = true
      · rw [if_pos c] at hq
        rw [Bool.and_eq_true] at c
        rw [← Option.some.inj hq]
        refine ⟨c.1, Nat.lt_succ_self k, fun j hj hb => ?_⟩
        cases m with
        | none =>
          have e2 : j = k := by
            rcases Nat.lt_or_ge j k with z | z
            · rw [h2 rfl j z] at hb; cases hb
            · omega
          exact ⟨fun z => by omega, by rw [e2]; exact Nat.le_refl _⟩
        | some p =>
          have c2 : key k < key p := of_decide_eq_true c.2
          obtain ⟨g1, g2, g3⟩ := h1 p rfl
          rcases Nat.lt_or_ge j k with z | z
          · have := (g3 j z hb).2
            exact ⟨fun _ => by omega, by omega⟩
          · have e2 : j = k := by omega
            exact ⟨fun z => by omega, by rw [e2]; exact Nat.le_refl _⟩
      · rw [if_neg c] at hq
        obtain ⟨g1, g2, g3⟩ := h1 q hq
        refine ⟨g1, by omega, fun j hj hb => ?_⟩
        rcases Nat.lt_or_ge j k with z | z
        · exact g3 j z hb
        · have e2 : j = k := by omega
          rw [e2] at hb ⊢
          refine ⟨fun z => by omega, ?_⟩
          rcases Nat.lt_or_ge (key k) (key q) with y | y
          · refine absurd ?_ c
            rw [hb, hq]
            exact decide_eq_true y
          · exact y
    · by_cases c : (bits.testBit k && lrb key m k) = true
      · rw [if_pos c] at hn; cases hn
      · rw [if_neg c] at hn
        intro j hj
        rcases Nat.lt_or_ge j k with z | z
        · exact h2 hn j z
        · have e2 : j = k := by omega
          rw [e2]
          cases hz : bits.testBit k with
          | false => rfl
          | true =>
            refine absurd ?_ c
            rw [hz, hn]; rfl
def lf (key : Nat → Nat) (bits : Nat) : Nat := (lr key bits 7 0 none).getD 0
theorem lf_ok {key : Nat → Nat} {bits : Nat} (hb : bits < 128) (h0 : bits ≠ 0) : lr key bits 7 0 none = some (lf key bits) ∧ bits.testBit (lf key bits) = true ∧ lf key bits < 7 ∧ ∀ j, j < 7 → bits.testBit j = true → (j < lf key bits → key (lf key bits) < key j) ∧ key (lf key bits) ≤ key j := by
  obtain ⟨g1, g2⟩ := lr_ok key bits 7 0 none (fun q h => by cases h) (fun _ j hj => by omega)
  unfold lf
  cases e : lr key bits 7 0 none with
  | none =>
    refine absurd (bit_ext7 hb (by decide) (fun j hj => ?_)) h0
    rw [Nat.zero_testBit]
    exact g2 e j (by omega)
  | some q =>
    obtain ⟨k1, k2, k3⟩ := g1 q e
    exact ⟨rfl, k1, by show q < 7; omega, fun j hj h => k3 j (by omega) h⟩
def sel (key : Nat → Nat) : Nat → Nat → List Nat
  | 0, _ => []
  | n + 1, bits => if bits = 0 then [] else lf key bits :: sel key n (tn_cl bits (lf key bits))
/-- ahead of: by the key, then by numbers -/
def RO (key : Nat → Nat) (a b : Nat) : Prop := key a < key b ∨ (key a = key b ∧ a < b)
theorem RO.asym {key : Nat → Nat} {a b : Nat} (h : RO key a b) (g : RO key b a) : False := by
  unfold RO at h g; omega
theorem RO.trans {key : Nat → Nat} {a b c : Nat} (h : RO key a b) (g : RO key b c) : RO key a c := by
  unfold RO at h g ⊢; omega
def pw (R : Nat → Nat → Prop) : List Nat → Prop
  | [] => True
  | a :: t => (∀ x ∈ t, R a x) ∧ pw R t
theorem pw_uniq {key : Nat → Nat} : ∀ (A B : List Nat), pw (RO key) A → pw (RO key) B → (∀ x, x ∈ A ↔ x ∈ B) → A = B
  | [], [], _, _, _ => rfl
  | [], b :: B, _, _, h => by have := (h b).mpr List.mem_cons_self; cases this
  | a :: A, [], _, _, h => by have := (h a).mp List.mem_cons_self; cases this
  | a :: A, b :: B, hA, hB, h => by
    have e : a = b := by
      rcases List.mem_cons.mp ((h a).mp List.mem_cons_self) with g | g
      · exact g
      · rcases List.mem_cons.mp ((h b).mpr List.mem_cons_self) with k | k
        · exact k.symm
        · exact (RO.asym (hA.1 b k) (hB.1 a g)).elim
    subst e
    rw [pw_uniq A B hA.2 hB.2 (fun x => ?_)]
    constructor
    · intro hx
      rcases List.mem_cons.mp ((h x).mp (List.mem_cons_of_mem _ hx)) with g | g
      · subst g; exact (RO.asym (hA.1 x hx) (hA.1 x hx)).elim
      · exact g
    · intro hx
      rcases List.mem_cons.mp ((h x).mpr (List.mem_cons_of_mem _ hx)) with g | g
      · subst g; exact (RO.asym (hB.1 x hx) (hB.1 x hx)).elim
      · exact g
theorem sel_ok (key : Nat → Nat) : ∀ (n bits : Nat), bits < 128 → tn_pc bits ≤ n → (∀ x, x ∈ sel key n bits ↔ (x < 7 ∧ bits.testBit x = true)) ∧ pw (RO key) (sel key n bits)
  | 0, bits, hb, hn => by
    have h0 : bits = 0 := tn_pc_0 bits hb (by omega)
    subst h0
    refine ⟨fun x => ⟨fun h => (by cases h), fun h => ?_⟩, trivial⟩
    rw [Nat.zero_testBit] at h
    cases h.2
  | n + 1, bits, hb, hn => by
    rw [sel]
    by_cases c : bits = 0
    · rw [if_pos c, c]
      refine ⟨fun x => ⟨fun h => (by cases h), fun h => ?_⟩, trivial⟩
      rw [Nat.zero_testBit] at h
      cases h.2
    · rw [if_neg c]
      obtain ⟨_, g1, g2, g3⟩ := lf_ok (key := key) hb c
      have hp := tn_pc_cl (lf key bits) g2 bits hb g1
      obtain ⟨i1, i2⟩ := sel_ok key n (tn_cl bits (lf key bits)) (tn_cl_lt hb) (by omega)
      refine ⟨fun x => ?_, fun x hx => ?_, i2⟩
      · rw [List.mem_cons, i1]
        constructor
        · rintro (h | ⟨h1, h2⟩)
          · rw [h]; exact ⟨g2, g1⟩
          · rw [tn_cl_tb _ g2 x h1 bits hb, Bool.and_eq_true] at h2
            exact ⟨h1, h2.1⟩
        · rintro ⟨h1, h2⟩
          by_cases e : x = lf key bits
          · exact Or.inl e
          · refine Or.inr ⟨h1, ?_⟩
            rw [tn_cl_tb _ g2 x h1 bits hb, h2, decide_eq_false e]
            rfl
      · obtain ⟨h1, h2⟩ := (i1 x).mp hx
        rw [tn_cl_tb _ g2 x h1 bits hb, Bool.and_eq_true] at h2
        have hne : ¬ x = lf key bits := by
          have := h2.2
          intro e
          rw [decide_eq_true e] at this
          cases this
        obtain ⟨k1, k2⟩ := g3 x h1 h2.1
        unfold RO
        rcases Nat.lt_trichotomy x (lf key bits) with z | z | z
        · exact Or.inl (k1 z)
        · exact absurd z hne
        · omega
theorem pw_of {R : Nat → Nat → Prop} : ∀ (A : List Nat), (∀ i j, i < j → j < A.length → R (A.getD i 0) (A.getD j 0)) → pw R A
  | [], _ => trivial
  | a :: A, h => by
    refine ⟨fun x hx => ?_, pw_of A (fun i j hij hj => h (i + 1) (j + 1) (by omega) (by rw [List.length_cons]; omega))⟩
    obtain ⟨i, hi, e⟩ := List.getElem_of_mem hx
    have := h 0 (i + 1) (by omega) (by rw [List.length_cons]; omega)
    have e2 : (a :: A).getD (i + 1) 0 = x := by
      show A.getD i 0 = x
      rw [List.getD_eq_getElem?_getD, List.getElem?_eq_getElem hi, ← e]
      rfl
    rw [e2] at this
    exact this
theorem pw_at {R : Nat → Nat → Prop} : ∀ (A : List Nat), pw R A → ∀ i j, i < j → j < A.length → R (A.getD i 0) (A.getD j 0)
  | [], _, i, j, _, hj => by cases hj
  | a :: A, h, 0, 0, hij, _ => by omega
  | a :: A, h, 0, j + 1, _, hj => h.1 _ (getD_mem (by rw [List.length_cons] at hj; omega))
  | a :: A, h, i + 1, 0, hij, _ => by omega
  | a :: A, h, i + 1, j + 1, hij, hj => pw_at A h.2 i j (by omega) (by rw [List.length_cons] at hj; omega)
theorem bl_pw (L b : Nat) : pw (fun a c => a < c) (bl L b) := by
  have key : ∀ (r k : Nat), pw (fun a c => a < c) ((List.range' k r).filter fun l => b.testBit l) ∧ ∀ x ∈ (List.range' k r).filter (fun l => b.testBit l), k ≤ x := by
    intro r
    induction r with
    | zero => intro k; exact ⟨trivial, fun x hx => by cases hx⟩
    | succ r ih =>
      intro k
      obtain ⟨h1, h2⟩ := ih (k + 1)
      rw [List.range'_succ, List.filter_cons]
      by_cases c : b.testBit k = true
      · rw [if_pos c]
        refine ⟨⟨fun x hx => h2 x hx, h1⟩, fun x hx => ?_⟩
        rcases List.mem_cons.mp hx with e | e
        · rw [e]; exact Nat.le_refl k
        · have := h2 x e; omega
      · rw [if_neg c]
        exact ⟨h1, fun x hx => by have := h2 x hx; omega⟩
  unfold bl
  rw [List.range_eq_range']
  exact (key L 0).1
/-- the other side's sorting -/
def ps1 (key : Nat → Nat) : Nat → List Nat → List Nat
  | 0, os => os
  | o + 1, os => ps1 key o (if key (os.getD (o + 1) 0) < key (os.getD o 0) then sw os o (o + 1) else os)
def srt (key : Nat → Nat) : Nat → Nat → List Nat → List Nat
  | 0, _, os => os
  | r + 1, k, os => srt key r (k + 1) (ps1 key k os)
theorem sw_memi {os : List Nat} {a b : Nat} (ha : a < os.length) (hb : b < os.length) (x : Nat) : x ∈ sw os a b ↔ x ∈ os := by
  constructor
  · intro h
    rcases List.mem_or_eq_of_mem_set h with h1 | h1
    · rcases List.mem_or_eq_of_mem_set h1 with h2 | h2
      · exact h2
      · rw [h2]; exact getD_mem hb
    · rw [h1]; exact getD_mem ha
  · intro h
    obtain ⟨i, hi, e⟩ := List.getElem_of_mem h
    have e2 : os.getD i 0 = x := by rw [List.getD_eq_getElem?_getD, List.getElem?_eq_getElem hi, ← e]; rfl
    have key : ∀ j, j < os.length → (sw os a b).getD j 0 = x → x ∈ sw os a b := fun j hj e3 => by
      rw [← e3]; exact getD_mem (by rw [sw_len]; exact hj)
    by_cases c1 : i = a
    · exact key b hb (by rw [sw_at ha hb, if_pos rfl, ← c1]; exact e2)
    · by_cases c2 : i = b
      · by_cases c3 : b = a
        · exact absurd (c2.trans c3) c1
        · exact key a ha (by rw [sw_at ha hb, if_neg c3, if_pos rfl, ← c2]; exact e2)
      · exact key i hi (by rw [sw_at ha hb, if_neg (fun z => c2 z.symm), if_neg (fun z => c1 z.symm)]; exact e2)
theorem ps1_ok (key : Nat → Nat) {k : Nat} : ∀ (o : Nat) (os : List Nat), o ≤ k → k < os.length →
    ((∀ i j, i < j → j ≤ k → j ≠ o → RO key (os.getD i 0) (os.getD j 0)) ∧ (∀ i, i ≤ k → i ≠ o → os.getD i 0 < os.getD o 0)) ∨ (∀ i j, i < j → j ≤ k → RO key (os.getD i 0) (os.getD j 0)) →
    (ps1 key o os).length = os.length ∧ (∀ x, x ∈ ps1 key o os ↔ x ∈ os) ∧ (∀ j, k < j → j < os.length → (ps1 key o os).getD j 0 = os.getD j 0) ∧ (∀ i j, i < j → j ≤ k → RO key ((ps1 key o os).getD i 0) ((ps1 key o os).getD j 0)) ∧ ∀ i, i ≤ k → ∃ u, u ≤ k ∧ (ps1 key o os).getD i 0 = os.getD u 0
  | 0, os, _, _, h => by
    refine ⟨rfl, fun _ => Iff.rfl, fun _ _ _ => rfl, fun i j h1 h2 => ?_, fun i hi => ⟨i, hi, rfl⟩⟩
    rcases h with h | h
    · exact h.1 i j h1 h2 (by omega)
    · exact h i j h1 h2
  | o + 1, os, ho, hk, h => by
    have h1o : o + 1 < os.length := by omega
    have h0o : o < os.length := by omega
    rw [ps1]
    by_cases c : key (os.getD (o + 1) 0) < key (os.getD o 0)
    · rw [if_pos c]
      rcases h with ⟨h1, h2⟩ | h
      · have hat : ∀ i, (sw os o (o + 1)).getD i 0 = if o + 1 = i then os.getD o 0 else if o = i then os.getD (o + 1) 0 else os.getD i 0 := fun i => sw_at h0o h1o
        have hI : (∀ i j, i < j → j ≤ k → j ≠ o → RO key ((sw os o (o + 1)).getD i 0) ((sw os o (o + 1)).getD j 0)) ∧ (∀ i, i ≤ k → i ≠ o → (sw os o (o + 1)).getD i 0 < (sw os o (o + 1)).getD o 0) := by
          refine ⟨fun i j hij hj hne => ?_, fun i hi hne => ?_⟩
          · rw [hat, hat]
            by_cases e1 : o + 1 = j
            · rw [if_pos e1]
              by_cases e2 : o + 1 = i
              · omega
              · rw [if_neg e2]
                by_cases e3 : o = i
                · rw [if_pos e3]; exact Or.inl c
                · rw [if_neg e3]; exact h1 i o (by omega) (by omega) (by omega)
            · rw [if_neg e1, if_neg (show ¬ o = j from fun z => hne z.symm)]
              by_cases e2 : o + 1 = i
              · rw [if_pos e2]; exact h1 o j (by omega) hj (fun z => e1 z.symm)
              · rw [if_neg e2]
                by_cases e3 : o = i
                · rw [if_pos e3]; exact h1 (o + 1) j (by omega) hj (fun z => e1 z.symm)
                · rw [if_neg e3]; exact h1 i j hij hj (fun z => e1 z.symm)
          · rw [hat, hat, if_neg (show ¬ o + 1 = o by omega), if_pos rfl]
            by_cases e1 : o + 1 = i
            · rw [if_pos e1]; exact h2 o (by omega) (by omega)
            · rw [if_neg e1, if_neg (show ¬ o = i from fun z => hne z.symm)]
              exact h2 i hi (fun z => e1 z.symm)
        obtain ⟨g1, g2, g3, g4, g5⟩ := ps1_ok key (k := k) o (sw os o (o + 1)) (by omega) (by rw [sw_len]; omega) (Or.inl hI)
        refine ⟨by rw [g1, sw_len], fun x => (g2 x).trans (sw_memi h0o h1o x), fun j hj hjl => ?_, g4, fun i hi => ?_⟩
        · rw [g3 j hj (by rw [sw_len]; exact hjl), hat, if_neg (by omega), if_neg (by omega)]
        · obtain ⟨u, hu, e⟩ := g5 i hi
          rw [e, hat]
          by_cases e1 : o + 1 = u
          · rw [if_pos e1]; exact ⟨o, by omega, rfl⟩
          · rw [if_neg e1]
            by_cases e2 : o = u
            · rw [if_pos e2]; exact ⟨o + 1, ho, rfl⟩
            · rw [if_neg e2]; exact ⟨u, hu, rfl⟩
      · have := h o (o + 1) (by omega) ho
        unfold RO at this
        omega
    · rw [if_neg c]
      refine ps1_ok key (k := k) o os (by omega) hk (Or.inr (fun i j hij hj => ?_))
      rcases h with ⟨h1, h2⟩ | h
      · by_cases e1 : j = o + 1
        · have hx : RO key (os.getD o 0) (os.getD (o + 1) 0) := by
            have := h2 o (by omega) (by omega)
            unfold RO; omega
          rw [e1]
          by_cases e2 : i = o
          · rw [e2]; exact hx
          · exact (h1 i o (by omega) (by omega) (by omega)).trans hx
        · exact h1 i j hij hj e1
      · exact h i j hij hj
theorem srt_ok (key : Nat → Nat) : ∀ (r k : Nat) (os : List Nat), k + r = os.length → 1 ≤ k → (∀ i j, i < j → j < k → RO key (os.getD i 0) (os.getD j 0)) → (∀ i j, i < j → j < os.length → k ≤ j → os.getD i 0 < os.getD j 0) → (∀ x, x ∈ srt key r k os ↔ x ∈ os) ∧ (srt key r k os).length = os.length ∧ pw (RO key) (srt key r k os)
  | 0, k, os, hk, _, h, _ => ⟨fun _ => Iff.rfl, rfl, pw_of os (fun i j hij hj => h i j hij (by omega))⟩
  | r + 1, k, os, hk, h1, h, g => by
    rw [srt]
    obtain ⟨p1, p2, p3, p4, p5⟩ := ps1_ok key (k := k) k os (Nat.le_refl k) (by omega) (Or.inl ⟨fun i j hij hj hne => h i j hij (by omega), fun i hi hne => g i k (by omega) (by omega) (Nat.le_refl k)⟩)
    obtain ⟨q1, q2, q3⟩ := srt_ok key r (k + 1) (ps1 key k os) (by rw [p1]; omega) (by omega) (fun i j hij hj => p4 i j hij (by omega)) (fun i j hij hj hkj => by
      rw [p1] at hj
      rw [p3 j (by omega) hj]
      by_cases c : k < i
      · rw [p3 i c (by omega)]; exact g i j hij hj (by omega)
      · obtain ⟨u, hu, e⟩ := p5 i (by omega)
        rw [e]
        exact g u j (by omega) hj (by omega))
    exact ⟨fun x => (q1 x).trans (p2 x), q2.trans p1, q3⟩
/-- both ways to the same order -/
theorem sel_srt {key : Nat → Nat} {b : Nat} (hb : b < 128) : srt key ((bl 7 b).length - 1) 1 (bl 7 b) = sel key 7 b := by
  obtain ⟨s1, s2⟩ := sel_ok key 7 b hb (tn_pc_7 b hb)
  by_cases c : (bl 7 b).length = 0
  · have e : bl 7 b = [] := List.eq_nil_of_length_eq_zero c
    rw [e]
    have e2 : sel key 7 b = [] := by
      cases hz : sel key 7 b with
      | nil => rfl
      | cons a t =>
        have hm := (s1 a).mp (by rw [hz]; exact List.mem_cons_self)
        have : a ∈ bl 7 b := List.mem_filter.mpr ⟨List.mem_range.mpr hm.1, hm.2⟩
        rw [e] at this
        cases this
    rw [e2]
    rfl
  · obtain ⟨q1, q2, q3⟩ := srt_ok key ((bl 7 b).length - 1) 1 (bl 7 b) (by omega) (Nat.le_refl 1) (fun i j h1 h2 => by omega) (fun i j h1 h2 _ => pw_at _ (bl_pw 7 b) i j h1 h2)
    refine pw_uniq _ _ q3 s2 (fun x => ?_)
    rw [q1, s1]
    exact ⟨fun h => bl_mem h, fun h => List.mem_filter.mpr ⟨List.mem_range.mpr h.1, h.2⟩⟩
theorem sel_0 {b : Nat} (hb : b < 128) : sel (fun _ => 0) 7 b = bl 7 b := by
  obtain ⟨s1, s2⟩ := sel_ok (fun _ => 0) 7 b hb (tn_pc_7 b hb)
  refine pw_uniq _ _ s2 (pw_of _ (fun i j h1 h2 => Or.inr ⟨rfl, pw_at _ (bl_pw 7 b) i j h1 h2⟩)) (fun x => ?_)
  rw [s1]
  exact ⟨fun h => List.mem_filter.mpr ⟨List.mem_range.mpr h.1, h.2⟩, fun h => bl_mem h⟩
/-- where a lot stands -/
def pof (os : List Nat) (l : Nat) : Nat → Nat → Nat
  | 0, _ => 0
  | r + 1, k => if os.getD k 0 = l then k else pof os l r (k + 1)
def pl (os : List Nat) (l : Nat) : Nat := pof os l os.length 0
theorem pof_ok {os : List Nat} {l : Nat} : ∀ (r k : Nat), k + r = os.length → (∃ i, k ≤ i ∧ i < os.length ∧ os.getD i 0 = l) → pof os l r k < os.length ∧ os.getD (pof os l r k) 0 = l
  | 0, k, hk, ⟨i, h1, h2, _⟩ => by omega
  | r + 1, k, hk, ⟨i, h1, h2, h3⟩ => by
    rw [pof]
    by_cases c : os.getD k 0 = l
    · rw [if_pos c]; exact ⟨by omega, c⟩
    · rw [if_neg c]
      refine pof_ok r (k + 1) (by omega) ⟨i, ?_, h2, h3⟩
      rcases Nat.lt_or_ge k i with z | z
      · omega
      · exact absurd (by rw [show k = i by omega]; exact h3) c
theorem mem_getD {os : List Nat} {l : Nat} (h : l ∈ os) : ∃ i, i < os.length ∧ os.getD i 0 = l := by
  obtain ⟨i, hi, e⟩ := List.getElem_of_mem h
  exact ⟨i, hi, by rw [List.getD_eq_getElem?_getD, List.getElem?_eq_getElem hi, ← e]; rfl⟩
theorem pl_ok {os : List Nat} {l : Nat} (h : l ∈ os) : pl os l < os.length ∧ os.getD (pl os l) 0 = l := by
  obtain ⟨i, hi, e⟩ := mem_getD h
  exact pof_ok os.length 0 (by omega) ⟨i, Nat.zero_le i, hi, e⟩
theorem OR.sw {σ : qm_St} {os : List Nat} (h : OR σ os) {a b : Nat} (ha : a < os.length) (hb : b < os.length) : OR (qm_wF (qm_wF σ 39 a (nI (os.getD b 0))) 39 b (nI (os.getD a 0))) (sw os a b) := by
  refine ⟨by rw [sw_len]; exact h.1, by rw [sw_len]; exact h.2.1, fun i hi => ?_⟩
  rw [sw_len] at hi
  rw [sw_at ha hb]
  by_cases e : b = i
  · subst e; rw [rF_eq, if_pos rfl]
  · rw [if_neg e, rF_ne (Or.inr (fun z => e z.symm))]
    by_cases e2 : a = i
    · subst e2; rw [rF_eq, if_pos rfl]
    · rw [if_neg e2, rF_ne (Or.inr (fun z => e2 z.symm))]
      exact h.2.2 i hi
/-- what the first house is worth in an order -/
def wo (T : tn_T) (X : gx_T) (l : Nat) (os : List Nat) : Int32 := sx_says T X 0 l (nI (tn_wd (tn_bl T (os.take (pl os l))) l)) (nI (pl os l))

set_option maxRecDepth 8000 in
set_option maxHeartbeats 2000000 in
theorem l_leastRanked {σ : qm_St} {T : tn_T} (hT : tn_ok T) (h : TR σ 9 18 T) {bits s : Nat} (hb : bits < 2 ^ tn_L T) (hs : s < 3) (f0 : Int32) : ∀ (r k : Nat) (m : Option Nat) (x : Option Value), k + r = 7 → Ex qm_lay 1 mX2_leastRanked 12 [some (.ref 22), some (.int (nI bits)), some (.int (sgI s)), some (.int ((m).elim f0 nI)), some (.int ((m).elim 2147483647 (rkI T s))), some (.int (nI k)), x] [] σ (some (.int ((lr (ky T s) bits r k m).elim f0 nI))) σ := by
  have hL := hT.1
  have h128 : 2 ^ tn_L T ≤ 128 := Nat.pow_le_pow_right (n := 2) (by omega) hL
  intro r
  induction r with
  | zero =>
    intro k m x hk
    refine ex_iload dX2_leastRanked_12 rfl rfl ?_
    refine ex_bipush (x := 7) dX2_leastRanked_14 rfl rfl ?_
    refine ex_icmp_ge (q := 62) (q2 := 19) dX2_leastRanked_16 rfl rfl (fun _ => ?_) (fun hh => absurd (nI_le (a := 7) (b := k) (by omega) (by omega)) hh)
    refine ex_iload_n dX2_leastRanked_62 rfl rfl ?_
    exact ex_iret dX2_leastRanked_63 rfl rfl rfl
  | succ r ih =>
    intro k m x hk
    by_cases c1 : bits.testBit k = true
    · have hkL : k < tn_L T := bit_lt hb c1
      have hrk : sgI s * jk_bc (qm_rF σ 20 k) = rkI T s k := by
        rw [show qm_rF σ 20 k = nI (tn_b T k) from TR.bb h hkL, jk_bc_nI _ (by have := tn_b_lt hT hkL; omega)]
        rfl
      by_cases c2 : lrb (ky T s) m k = true
      · have hE := ih (k + 1) (some k) (some (.int (sgI s * jk_bc (qm_rF σ 20 k)))) (by omega)
        have e1 : lr (ky T s) bits (r + 1) k m = lr (ky T s) bits r (k + 1) (some k) := by rw [lr, if_pos (by rw [c1, c2]; rfl)]
        rw [e1]
        have hlt : rkI T s k < m.elim 2147483647 (rkI T s) := by
          cases m with
          | none => exact rk_max T hs k
          | some q => exact (rk_lt T hs k q).mpr (of_decide_eq_true c2)
        refine ex_iload dX2_leastRanked_12 rfl rfl ?_
        refine ex_bipush (x := 7) dX2_leastRanked_14 rfl rfl ?_
        refine ex_icmp_ge (q := 62) (q2 := 19) dX2_leastRanked_16 rfl rfl (fun hh => absurd hh (nI_ge (a := k) (b := 7) (by omega) (by omega))) (fun _ => ?_)
        refine ex_iload_n dX2_leastRanked_19 rfl rfl ?_
        refine ex_aload_n dX2_leastRanked_20 rfl rfl ?_
        refine ex_getR (b := 25) dX2_leastRanked_21 rfl qp_1_52 rfl rfl ?_
        refine ex_iload dX2_leastRanked_24 rfl rfl ?_
        refine ex_iaload (k := k) (x := qm_rF σ 20 k) dX2_leastRanked_26 rfl rfl (rfl) (by omega) (by decide) (rfl) ?_
        refine ex_callS (rest := [.int (sgI s)]) dX2_leastRanked_27 rfl qp_1_24 rfl rfl rfl (Nat.le_of_ble_eq_true rfl) (c_bitCount _ _) (Nat.le_of_ble_eq_true rfl) ?_
        show Ex qm_lay _ mX2_leastRanked 30 [some (.ref 22), some (.int (nI bits)), some (.int (sgI s)), some (.int ((m).elim f0 nI)), some (.int ((m).elim 2147483647 (rkI T s))), some (.int (nI k)), x] [.int (jk_bc (qm_rF σ 20 k)), .int (sgI s)] σ _ _
        refine ex_imul (z := sgI s * jk_bc (qm_rF σ 20 k)) dX2_leastRanked_30 rfl (rfl) ?_
        refine ex_istore (ls' := [some (.ref 22), some (.int (nI bits)), some (.int (sgI s)), some (.int ((m).elim f0 nI)), some (.int ((m).elim 2147483647 (rkI T s))), some (.int (nI k)), some (.int (sgI s * jk_bc (qm_rF σ 20 k)))]) dX2_leastRanked_31 rfl (Nat.le_of_ble_eq_true rfl) rfl rfl ?_
        refine ex_iload_n dX2_leastRanked_33 rfl rfl ?_
        refine ex_iload dX2_leastRanked_34 rfl rfl ?_
        refine ex_ishr (z := (nI bits) >>> ((nI k) &&& 31)) dX2_leastRanked_36 rfl (rfl) ?_
        refine ex_iconst (x := 1) dX2_leastRanked_37 rfl rfl ?_
        refine ex_iand (z := b2i (Nat.testBit bits k)) dX2_leastRanked_38 rfl (nI_bit (by omega) (by omega)) ?_
        refine ex_if_eq (q := 56) (q2 := 42) dX2_leastRanked_39 rfl rfl (fun hh => absurd hh (b2i_n0.mpr (c1))) (fun _ => ?_)
        refine ex_iload dX2_leastRanked_42 rfl rfl ?_
        refine ex_iload dX2_leastRanked_44 rfl rfl ?_
        refine ex_icmp_ge (q := 56) (q2 := 49) dX2_leastRanked_46 rfl rfl (fun hh => absurd hh ((by rw [hrk]; exact Int32.not_le.mpr hlt))) (fun _ => ?_)
        refine ex_iload dX2_leastRanked_49 rfl rfl ?_
        refine ex_istore_n (ls' := [some (.ref 22), some (.int (nI bits)), some (.int (sgI s)), some (.int (nI k)), some (.int ((m).elim 2147483647 (rkI T s))), some (.int (nI k)), some (.int (sgI s * jk_bc (qm_rF σ 20 k)))]) dX2_leastRanked_51 rfl (Nat.le_of_ble_eq_true rfl) rfl rfl ?_
        refine ex_iload dX2_leastRanked_52 rfl rfl ?_
        refine ex_istore (ls' := [some (.ref 22), some (.int (nI bits)), some (.int (sgI s)), some (.int (nI k)), some (.int (sgI s * jk_bc (qm_rF σ 20 k))), some (.int (nI k)), some (.int (sgI s * jk_bc (qm_rF σ 20 k)))]) dX2_leastRanked_54 rfl (Nat.le_of_ble_eq_true rfl) rfl rfl ?_
        refine ex_iinc (y := nI (k + 1)) (ls' := [some (.ref 22), some (.int (nI bits)), some (.int (sgI s)), some (.int (nI k)), some (.int (sgI s * jk_bc (qm_rF σ 20 k))), some (.int (nI (k + 1))), some (.int (sgI s * jk_bc (qm_rF σ 20 k)))]) dX2_leastRanked_56 rfl rfl rfl (nI_add k 1) rfl ?_
        refine ex_goto (q := 12) dX2_leastRanked_59 rfl ?_
        rw [hrk] at hE ⊢
        exact hE
      · have hE := ih (k + 1) m (some (.int (sgI s * jk_bc (qm_rF σ 20 k)))) (by omega)
        have e1 : lr (ky T s) bits (r + 1) k m = lr (ky T s) bits r (k + 1) m := by rw [lr, if_neg (by rw [c1, Bool.true_and]; exact c2)]
        rw [e1]
        have hge : m.elim 2147483647 (rkI T s) ≤ rkI T s k := by
          cases m with
          | none => exact absurd rfl c2
          | some q => exact Int32.not_lt.mp (fun z => c2 (decide_eq_true ((rk_lt T hs k q).mp z)))
        refine ex_iload dX2_leastRanked_12 rfl rfl ?_
        refine ex_bipush (x := 7) dX2_leastRanked_14 rfl rfl ?_
        refine ex_icmp_ge (q := 62) (q2 := 19) dX2_leastRanked_16 rfl rfl (fun hh => absurd hh (nI_ge (a := k) (b := 7) (by omega) (by omega))) (fun _ => ?_)
        refine ex_iload_n dX2_leastRanked_19 rfl rfl ?_
        refine ex_aload_n dX2_leastRanked_20 rfl rfl ?_
        refine ex_getR (b := 25) dX2_leastRanked_21 rfl qp_1_52 rfl rfl ?_
        refine ex_iload dX2_leastRanked_24 rfl rfl ?_
        refine ex_iaload (k := k) (x := qm_rF σ 20 k) dX2_leastRanked_26 rfl rfl (rfl) (by omega) (by decide) (rfl) ?_
        refine ex_callS (rest := [.int (sgI s)]) dX2_leastRanked_27 rfl qp_1_24 rfl rfl rfl (Nat.le_of_ble_eq_true rfl) (c_bitCount _ _) (Nat.le_of_ble_eq_true rfl) ?_
        show Ex qm_lay _ mX2_leastRanked 30 [some (.ref 22), some (.int (nI bits)), some (.int (sgI s)), some (.int ((m).elim f0 nI)), some (.int ((m).elim 2147483647 (rkI T s))), some (.int (nI k)), x] [.int (jk_bc (qm_rF σ 20 k)), .int (sgI s)] σ _ _
        refine ex_imul (z := sgI s * jk_bc (qm_rF σ 20 k)) dX2_leastRanked_30 rfl (rfl) ?_
        refine ex_istore (ls' := [some (.ref 22), some (.int (nI bits)), some (.int (sgI s)), some (.int ((m).elim f0 nI)), some (.int ((m).elim 2147483647 (rkI T s))), some (.int (nI k)), some (.int (sgI s * jk_bc (qm_rF σ 20 k)))]) dX2_leastRanked_31 rfl (Nat.le_of_ble_eq_true rfl) rfl rfl ?_
        refine ex_iload_n dX2_leastRanked_33 rfl rfl ?_
        refine ex_iload dX2_leastRanked_34 rfl rfl ?_
        refine ex_ishr (z := (nI bits) >>> ((nI k) &&& 31)) dX2_leastRanked_36 rfl (rfl) ?_
        refine ex_iconst (x := 1) dX2_leastRanked_37 rfl rfl ?_
        refine ex_iand (z := b2i (Nat.testBit bits k)) dX2_leastRanked_38 rfl (nI_bit (by omega) (by omega)) ?_
        refine ex_if_eq (q := 56) (q2 := 42) dX2_leastRanked_39 rfl rfl (fun hh => absurd hh (b2i_n0.mpr (c1))) (fun _ => ?_)
        refine ex_iload dX2_leastRanked_42 rfl rfl ?_
        refine ex_iload dX2_leastRanked_44 rfl rfl ?_
        refine ex_icmp_ge (q := 56) (q2 := 49) dX2_leastRanked_46 rfl rfl (fun _ => ?_) (fun hh => absurd ((by rw [hrk]; exact hge)) hh)
        refine ex_iinc (y := nI (k + 1)) (ls' := [some (.ref 22), some (.int (nI bits)), some (.int (sgI s)), some (.int ((m).elim f0 nI)), some (.int ((m).elim 2147483647 (rkI T s))), some (.int (nI (k + 1))), some (.int (sgI s * jk_bc (qm_rF σ 20 k)))]) dX2_leastRanked_56 rfl rfl rfl (nI_add k 1) rfl ?_
        refine ex_goto (q := 12) dX2_leastRanked_59 rfl ?_
        exact hE
    · have hE := ih (k + 1) m (some (.int (sgI s * jk_bc (qm_rF σ 20 k)))) (by omega)
      have e1 : lr (ky T s) bits (r + 1) k m = lr (ky T s) bits r (k + 1) m := by rw [lr, if_neg (fun z => c1 (by rw [Bool.and_eq_true] at z; exact z.1))]
      rw [e1]
      refine ex_iload dX2_leastRanked_12 rfl rfl ?_
      refine ex_bipush (x := 7) dX2_leastRanked_14 rfl rfl ?_
      refine ex_icmp_ge (q := 62) (q2 := 19) dX2_leastRanked_16 rfl rfl (fun hh => absurd hh (nI_ge (a := k) (b := 7) (by omega) (by omega))) (fun _ => ?_)
      refine ex_iload_n dX2_leastRanked_19 rfl rfl ?_
      refine ex_aload_n dX2_leastRanked_20 rfl rfl ?_
      refine ex_getR (b := 25) dX2_leastRanked_21 rfl qp_1_52 rfl rfl ?_
      refine ex_iload dX2_leastRanked_24 rfl rfl ?_
      refine ex_iaload (k := k) (x := qm_rF σ 20 k) dX2_leastRanked_26 rfl rfl (rfl) (by omega) (by decide) (rfl) ?_
      refine ex_callS (rest := [.int (sgI s)]) dX2_leastRanked_27 rfl qp_1_24 rfl rfl rfl (Nat.le_of_ble_eq_true rfl) (c_bitCount _ _) (Nat.le_of_ble_eq_true rfl) ?_
      show Ex qm_lay _ mX2_leastRanked 30 [some (.ref 22), some (.int (nI bits)), some (.int (sgI s)), some (.int ((m).elim f0 nI)), some (.int ((m).elim 2147483647 (rkI T s))), some (.int (nI k)), x] [.int (jk_bc (qm_rF σ 20 k)), .int (sgI s)] σ _ _
      refine ex_imul (z := sgI s * jk_bc (qm_rF σ 20 k)) dX2_leastRanked_30 rfl (rfl) ?_
      refine ex_istore (ls' := [some (.ref 22), some (.int (nI bits)), some (.int (sgI s)), some (.int ((m).elim f0 nI)), some (.int ((m).elim 2147483647 (rkI T s))), some (.int (nI k)), some (.int (sgI s * jk_bc (qm_rF σ 20 k)))]) dX2_leastRanked_31 rfl (Nat.le_of_ble_eq_true rfl) rfl rfl ?_
      refine ex_iload_n dX2_leastRanked_33 rfl rfl ?_
      refine ex_iload dX2_leastRanked_34 rfl rfl ?_
      refine ex_ishr (z := (nI bits) >>> ((nI k) &&& 31)) dX2_leastRanked_36 rfl (rfl) ?_
      refine ex_iconst (x := 1) dX2_leastRanked_37 rfl rfl ?_
      refine ex_iand (z := b2i (Nat.testBit bits k)) dX2_leastRanked_38 rfl (nI_bit (by omega) (by omega)) ?_
      refine ex_if_eq (q := 56) (q2 := 42) dX2_leastRanked_39 rfl rfl (fun _ => ?_) (fun hh => absurd (b2i_0.mpr (by simpa using c1)) hh)
      refine ex_iinc (y := nI (k + 1)) (ls' := [some (.ref 22), some (.int (nI bits)), some (.int (sgI s)), some (.int ((m).elim f0 nI)), some (.int ((m).elim 2147483647 (rkI T s))), some (.int (nI (k + 1))), some (.int (sgI s * jk_bc (qm_rF σ 20 k)))]) dX2_leastRanked_56 rfl rfl rfl (nI_add k 1) rfl ?_
      refine ex_goto (q := 12) dX2_leastRanked_59 rfl ?_
      exact hE

set_option maxRecDepth 8000 in
set_option maxHeartbeats 2000000 in
theorem c_leastRanked {σ : qm_St} {T : tn_T} (hT : tn_ok T) (h : TR σ 9 18 T) {bits s : Nat} (hb : bits < 2 ^ tn_L T) (h0 : bits ≠ 0) (hs : s < 3) : Ok qm_lay 1 mX2_leastRanked [.ref 22, .int (nI bits), .int (sgI s)] σ (some (.int (nI (lf (ky T s) bits)))) σ := by
  have hL := hT.1
  have h128 : 2 ^ tn_L T ≤ 128 := Nat.pow_le_pow_right (n := 2) (by omega) hL
  have hE := l_leastRanked hT h hb hs (jk_tz (nI bits)) 7 0 none none (by omega)
  rw [(lf_ok (key := ky T s) (by omega) h0).1] at hE
  refine Ok.of (ls := [some (.ref 22), some (.int (nI bits)), some (.int (sgI s)), none, none, none, none]) (Nat.le_of_ble_eq_true rfl) rfl ?_
  refine ex_iload_n dX2_leastRanked_0 rfl rfl ?_
  refine ex_callS (rest := []) dX2_leastRanked_1 rfl qp_1_48 rfl rfl rfl (Nat.le_of_ble_eq_true rfl) (c_tz _ _) (Nat.le_of_ble_eq_true rfl) ?_
  show Ex qm_lay _ mX2_leastRanked 4 [some (.ref 22), some (.int (nI bits)), some (.int (sgI s)), none, none, none, none] [.int (jk_tz (nI bits))] σ _ _
  refine ex_istore_n (ls' := [some (.ref 22), some (.int (nI bits)), some (.int (sgI s)), some (.int (jk_tz (nI bits))), none, none, none]) dX2_leastRanked_4 rfl (Nat.le_of_ble_eq_true rfl) rfl rfl ?_
  refine ex_ldc (x := 2147483647) dX2_leastRanked_5 rfl qp_1_51 ?_
  refine ex_istore (ls' := [some (.ref 22), some (.int (nI bits)), some (.int (sgI s)), some (.int (jk_tz (nI bits))), some (.int 2147483647), none, none]) dX2_leastRanked_7 rfl (Nat.le_of_ble_eq_true rfl) rfl rfl ?_
  refine ex_iconst (x := 0) dX2_leastRanked_9 rfl rfl ?_
  refine ex_istore (ls' := [some (.ref 22), some (.int (nI bits)), some (.int (sgI s)), some (.int (jk_tz (nI bits))), some (.int 2147483647), some (.int 0), none]) dX2_leastRanked_10 rfl (Nat.le_of_ble_eq_true rfl) rfl rfl ?_
  exact hE

set_option maxRecDepth 8000 in
set_option maxHeartbeats 2000000 in
theorem l_becomesRule {T : tn_T} (hT : tn_ok T) {s : Nat} (hs : s < 3) : ∀ (f bits : Nat) (acc : List Nat) (x : Option Value) (σ : qm_St), acc.length + f = 7 → bits < 2 ^ tn_L T → TR σ 9 18 T → OR σ acc → ∃ σ', Ex qm_lay 2 mX2_becomesRule 33 [some (.ref 48), some (.ref 22), some (.int (nI s)), some (.int (sgI s)), some (.int (nI bits)), some (.int (nI acc.length)), x] [] σ none σ' ∧ OR σ' (acc ++ sel (ky T s) f bits) ∧ sm σ σ' 21 22 39 40 := by
  have hL := hT.1
  have h128 : 2 ^ tn_L T ≤ 128 := Nat.pow_le_pow_right (n := 2) (by omega) hL
  intro f
  induction f with
  | zero =>
    intro bits acc x σ hf hb h hor
    refine ⟨σ, ?_, by rw [sel, List.append_nil]; exact hor, sm.rf _ _ _ _ _⟩
    refine ex_iload dX2_becomesRule_33 rfl rfl ?_
    refine ex_bipush (x := 7) dX2_becomesRule_35 rfl rfl ?_
    refine ex_icmp_ge (q := 77) (q2 := 40) dX2_becomesRule_37 rfl rfl (fun _ => ?_) (fun hh => absurd (nI_le (a := 7) (b := acc.length) (by omega) (by omega)) hh)
    exact ex_vret dX2_becomesRule_77 rfl rfl rfl
  | succ f ih =>
    intro bits acc x σ hf hb h hor
    by_cases c0 : bits = 0
    · rw [sel, if_pos c0, List.append_nil]
      subst c0
      refine ⟨σ, ?_, hor, sm.rf _ _ _ _ _⟩
      refine ex_iload dX2_becomesRule_33 rfl rfl ?_
      refine ex_bipush (x := 7) dX2_becomesRule_35 rfl rfl ?_
      refine ex_icmp_ge (q := 77) (q2 := 40) dX2_becomesRule_37 rfl rfl (fun hh => absurd hh (nI_ge (a := acc.length) (b := 7) (by omega) (by omega))) (fun _ => ?_)
      refine ex_iload dX2_becomesRule_40 rfl rfl ?_
      refine ex_if_eq (q := 77) (q2 := 45) dX2_becomesRule_42 rfl rfl (fun _ => ?_) (fun hh => absurd (rfl) hh)
      exact ex_vret dX2_becomesRule_77 rfl rfl rfl
    · obtain ⟨q, hq⟩ : ∃ q, q = lf (ky T s) bits := ⟨_, rfl⟩
      have hO1 := c_leastRanked hT h hb c0 hs
      obtain ⟨_, g1, g2, g3⟩ := lf_ok (key := ky T s) (show bits < 128 by omega) c0
      rw [sel, if_neg c0, ← hq]
      rw [← hq] at g1 g2 hO1
      have hO2 := c_append hor (by omega) q
      have hg : sm σ (qm_wI (qm_wF σ 39 acc.length (nI q)) 21 (nI (acc.length + 1))) 21 22 39 40 := ((sm.rf σ 21 22 39 40).wF _ (by omega)).wI _ (by omega)
      have hb2 : tn_cl bits q < 2 ^ tn_L T := Nat.lt_of_le_of_lt (tn_cl_le _ _) hb
      obtain ⟨σ', hE, hR, hs2⟩ := ih (tn_cl bits q) (acc ++ [q]) (some (.int (nI q))) _ (by rw [List.length_append]; show acc.length + 1 + f = 7; omega) hb2 (h.sm hg (by omega) (by omega)) (hor.app (by omega) q)
      rw [List.append_cons]
      refine ⟨σ', ?_, hR, hg.tr hs2⟩
      have el : (acc ++ [q]).length = acc.length + 1 := by rw [List.length_append]; rfl
      rw [el] at hE
      refine ex_iload dX2_becomesRule_33 rfl rfl ?_
      refine ex_bipush (x := 7) dX2_becomesRule_35 rfl rfl ?_
      refine ex_icmp_ge (q := 77) (q2 := 40) dX2_becomesRule_37 rfl rfl (fun hh => absurd hh (nI_ge (a := acc.length) (b := 7) (by omega) (by omega))) (fun _ => ?_)
      refine ex_iload dX2_becomesRule_40 rfl rfl ?_
      refine ex_if_eq (q := 77) (q2 := 45) dX2_becomesRule_42 rfl rfl (fun hh => absurd hh (fun zz => c0 ((nI_eq (b := 0) (by omega) (by decide)).mp zz))) (fun _ => ?_)
      refine ex_aload_n dX2_becomesRule_45 rfl rfl ?_
      refine ex_iload dX2_becomesRule_46 rfl rfl ?_
      refine ex_iload_n dX2_becomesRule_48 rfl rfl ?_
      refine ex_callS (rest := []) dX2_becomesRule_49 rfl qp_1_44 rfl rfl rfl (Nat.le_of_ble_eq_true rfl) (hO1) (Nat.le_of_ble_eq_true rfl) ?_
      show Ex qm_lay _ mX2_becomesRule 52 [some (.ref 48), some (.ref 22), some (.int (nI s)), some (.int (sgI s)), some (.int (nI bits)), some (.int (nI acc.length)), x] [.int (nI q)] σ _ _
      refine ex_istore (ls' := [some (.ref 48), some (.ref 22), some (.int (nI s)), some (.int (sgI s)), some (.int (nI bits)), some (.int (nI acc.length)), some (.int (nI q))]) dX2_becomesRule_52 rfl (Nat.le_of_ble_eq_true rfl) rfl rfl ?_
      refine ex_iload dX2_becomesRule_54 rfl rfl ?_
      refine ex_iconst (x := 1) dX2_becomesRule_56 rfl rfl ?_
      refine ex_iload dX2_becomesRule_57 rfl rfl ?_
      refine ex_ishl (z := nI (2 ^ q)) dX2_becomesRule_59 rfl (nI_1shl (by omega)) ?_
      refine ex_iconst (x := (-1)) dX2_becomesRule_60 rfl rfl ?_
      refine ex_ixor (z := (nI (2 ^ q)) ^^^ (-1)) dX2_becomesRule_61 rfl (rfl) ?_
      refine ex_iand (z := nI (tn_cl bits q)) dX2_becomesRule_62 rfl (tn_cls (by omega) (by omega)) ?_
      refine ex_istore (ls' := [some (.ref 48), some (.ref 22), some (.int (nI s)), some (.int (sgI s)), some (.int (nI (tn_cl bits q))), some (.int (nI acc.length)), some (.int (nI q))]) dX2_becomesRule_63 rfl (Nat.le_of_ble_eq_true rfl) rfl rfl ?_
      refine ex_aload_n dX2_becomesRule_65 rfl rfl ?_
      refine ex_iload dX2_becomesRule_66 rfl rfl ?_
      refine ex_callV (a := 48) (rest := []) dX2_becomesRule_68 rfl qp_1_34 rfl rfl rfl rfl rfl (Nat.le_of_ble_eq_true rfl) (hO2) (Nat.le_of_ble_eq_true rfl) ?_
      show Ex qm_lay _ mX2_becomesRule 71 [some (.ref 48), some (.ref 22), some (.int (nI s)), some (.int (sgI s)), some (.int (nI (tn_cl bits q))), some (.int (nI acc.length)), some (.int (nI q))] [] (qm_wI (qm_wF σ 39 acc.length (nI q)) 21 (nI (acc.length + 1))) _ _
      refine ex_iinc (y := nI (acc.length + 1)) (ls' := [some (.ref 48), some (.ref 22), some (.int (nI s)), some (.int (sgI s)), some (.int (nI (tn_cl bits q))), some (.int (nI (acc.length + 1))), some (.int (nI q))]) dX2_becomesRule_71 rfl rfl rfl (nI_add acc.length 1) rfl ?_
      refine ex_goto (q := 33) dX2_becomesRule_74 rfl ?_
      exact hE

set_option maxRecDepth 8000 in
set_option maxHeartbeats 2000000 in
theorem c_becomesRule_0 {σ : qm_St} {T : tn_T} (hT : tn_ok T) (h : TR σ 9 18 T) : ∃ σ', Ok qm_lay 2 mX2_becomesRule [.ref 48, .ref 22, .int 0] σ none σ' ∧ OR σ' (sel (ky T 0) 7 (tn_nb T)) ∧ sm σ σ' 21 22 39 40 := by
  have hnb := tn_nb_bits hT
  have hg : sm σ (qm_wI σ 21 0) 21 22 39 40 := (sm.rf σ 21 22 39 40).wI _ (by omega)
  have h1 := h.sm hg (by omega) (by omega)
  obtain ⟨σ', hE, hR, hs⟩ := l_becomesRule hT (s := 0) (by decide) 7 (tn_nb T) [] none _ rfl hnb.1 h1 (OR.nil (σ := σ))
  refine ⟨σ', ?_, hR, hg.tr hs⟩
  refine Ok.of (ls := [some (.ref 48), some (.ref 22), some (.int 0), none, none, none, none]) (Nat.le_of_ble_eq_true rfl) rfl ?_
  refine ex_aload_n dX2_becomesRule_0 rfl rfl ?_
  refine ex_iconst (x := 0) dX2_becomesRule_1 rfl rfl ?_
  refine ex_put (σ' := qm_wI σ 21 0) dX2_becomesRule_2 rfl qp_1_15 rfl rfl (Or.inl rfl) rfl ?_
  refine ex_iload_n dX2_becomesRule_5 rfl rfl ?_
  refine ex_if_ne (q := 13) (q2 := 9) dX2_becomesRule_6 rfl rfl (fun hh => absurd hh (by decide)) (fun _ => ?_)
  refine ex_iconst (x := 0) dX2_becomesRule_9 rfl rfl ?_
  refine ex_goto (q := 23) dX2_becomesRule_10 rfl ?_
  refine ex_istore_n (ls' := [some (.ref 48), some (.ref 22), some (.int 0), some (.int 0), none, none, none]) dX2_becomesRule_23 rfl (Nat.le_of_ble_eq_true rfl) rfl rfl ?_
  refine ex_aload_n dX2_becomesRule_24 rfl rfl ?_
  refine ex_callV (a := 22) (rest := []) dX2_becomesRule_25 rfl qp_1_38 rfl rfl rfl rfl rfl (Nat.le_of_ble_eq_true rfl) (c_unbuiltBits_0 hT h1) (Nat.le_of_ble_eq_true rfl) ?_
  show Ex qm_lay _ mX2_becomesRule 28 [some (.ref 48), some (.ref 22), some (.int 0), some (.int 0), none, none, none] [.int (nI (tn_nb T))] (qm_wI σ 21 0) _ _
  refine ex_istore (ls' := [some (.ref 48), some (.ref 22), some (.int 0), some (.int 0), some (.int (nI (tn_nb T))), none, none]) dX2_becomesRule_28 rfl (Nat.le_of_ble_eq_true rfl) rfl rfl ?_
  refine ex_iconst (x := 0) dX2_becomesRule_30 rfl rfl ?_
  refine ex_istore (ls' := [some (.ref 48), some (.ref 22), some (.int 0), some (.int 0), some (.int (nI (tn_nb T))), some (.int 0), none]) dX2_becomesRule_31 rfl (Nat.le_of_ble_eq_true rfl) rfl rfl ?_
  exact hE

set_option maxRecDepth 8000 in
set_option maxHeartbeats 2000000 in
theorem c_becomesRule_1 {σ : qm_St} {T : tn_T} (hT : tn_ok T) (h : TR σ 9 18 T) : ∃ σ', Ok qm_lay 2 mX2_becomesRule [.ref 48, .ref 22, .int 1] σ none σ' ∧ OR σ' (sel (ky T 1) 7 (tn_nb T)) ∧ sm σ σ' 21 22 39 40 := by
  have hnb := tn_nb_bits hT
  have hg : sm σ (qm_wI σ 21 0) 21 22 39 40 := (sm.rf σ 21 22 39 40).wI _ (by omega)
  have h1 := h.sm hg (by omega) (by omega)
  obtain ⟨σ', hE, hR, hs⟩ := l_becomesRule hT (s := 1) (by decide) 7 (tn_nb T) [] none _ rfl hnb.1 h1 (OR.nil (σ := σ))
  refine ⟨σ', ?_, hR, hg.tr hs⟩
  refine Ok.of (ls := [some (.ref 48), some (.ref 22), some (.int 1), none, none, none, none]) (Nat.le_of_ble_eq_true rfl) rfl ?_
  refine ex_aload_n dX2_becomesRule_0 rfl rfl ?_
  refine ex_iconst (x := 0) dX2_becomesRule_1 rfl rfl ?_
  refine ex_put (σ' := qm_wI σ 21 0) dX2_becomesRule_2 rfl qp_1_15 rfl rfl (Or.inl rfl) rfl ?_
  refine ex_iload_n dX2_becomesRule_5 rfl rfl ?_
  refine ex_if_ne (q := 13) (q2 := 9) dX2_becomesRule_6 rfl rfl (fun _ => ?_) (fun hh => absurd (by decide) hh)
  refine ex_iload_n dX2_becomesRule_13 rfl rfl ?_
  refine ex_iconst (x := 1) dX2_becomesRule_14 rfl rfl ?_
  refine ex_icmp_ne (q := 22) (q2 := 18) dX2_becomesRule_15 rfl rfl (fun hh => absurd hh (by decide)) (fun _ => ?_)
  refine ex_iconst (x := (-1)) dX2_becomesRule_18 rfl rfl ?_
  refine ex_goto (q := 23) dX2_becomesRule_19 rfl ?_
  refine ex_istore_n (ls' := [some (.ref 48), some (.ref 22), some (.int 1), some (.int (-1)), none, none, none]) dX2_becomesRule_23 rfl (Nat.le_of_ble_eq_true rfl) rfl rfl ?_
  refine ex_aload_n dX2_becomesRule_24 rfl rfl ?_
  refine ex_callV (a := 22) (rest := []) dX2_becomesRule_25 rfl qp_1_38 rfl rfl rfl rfl rfl (Nat.le_of_ble_eq_true rfl) (c_unbuiltBits_0 hT h1) (Nat.le_of_ble_eq_true rfl) ?_
  show Ex qm_lay _ mX2_becomesRule 28 [some (.ref 48), some (.ref 22), some (.int 1), some (.int (-1)), none, none, none] [.int (nI (tn_nb T))] (qm_wI σ 21 0) _ _
  refine ex_istore (ls' := [some (.ref 48), some (.ref 22), some (.int 1), some (.int (-1)), some (.int (nI (tn_nb T))), none, none]) dX2_becomesRule_28 rfl (Nat.le_of_ble_eq_true rfl) rfl rfl ?_
  refine ex_iconst (x := 0) dX2_becomesRule_30 rfl rfl ?_
  refine ex_istore (ls' := [some (.ref 48), some (.ref 22), some (.int 1), some (.int (-1)), some (.int (nI (tn_nb T))), some (.int 0), none]) dX2_becomesRule_31 rfl (Nat.le_of_ble_eq_true rfl) rfl rfl ?_
  exact hE

set_option maxRecDepth 8000 in
set_option maxHeartbeats 2000000 in
theorem c_becomesRule_2 {σ : qm_St} {T : tn_T} (hT : tn_ok T) (h : TR σ 9 18 T) : ∃ σ', Ok qm_lay 2 mX2_becomesRule [.ref 48, .ref 22, .int 2] σ none σ' ∧ OR σ' (sel (ky T 2) 7 (tn_nb T)) ∧ sm σ σ' 21 22 39 40 := by
  have hnb := tn_nb_bits hT
  have hg : sm σ (qm_wI σ 21 0) 21 22 39 40 := (sm.rf σ 21 22 39 40).wI _ (by omega)
  have h1 := h.sm hg (by omega) (by omega)
  obtain ⟨σ', hE, hR, hs⟩ := l_becomesRule hT (s := 2) (by decide) 7 (tn_nb T) [] none _ rfl hnb.1 h1 (OR.nil (σ := σ))
  refine ⟨σ', ?_, hR, hg.tr hs⟩
  refine Ok.of (ls := [some (.ref 48), some (.ref 22), some (.int 2), none, none, none, none]) (Nat.le_of_ble_eq_true rfl) rfl ?_
  refine ex_aload_n dX2_becomesRule_0 rfl rfl ?_
  refine ex_iconst (x := 0) dX2_becomesRule_1 rfl rfl ?_
  refine ex_put (σ' := qm_wI σ 21 0) dX2_becomesRule_2 rfl qp_1_15 rfl rfl (Or.inl rfl) rfl ?_
  refine ex_iload_n dX2_becomesRule_5 rfl rfl ?_
  refine ex_if_ne (q := 13) (q2 := 9) dX2_becomesRule_6 rfl rfl (fun _ => ?_) (fun hh => absurd (by decide) hh)
  refine ex_iload_n dX2_becomesRule_13 rfl rfl ?_
  refine ex_iconst (x := 1) dX2_becomesRule_14 rfl rfl ?_
  refine ex_icmp_ne (q := 22) (q2 := 18) dX2_becomesRule_15 rfl rfl (fun _ => ?_) (fun hh => absurd (by decide) hh)
  refine ex_iconst (x := 1) dX2_becomesRule_22 rfl rfl ?_
  refine ex_istore_n (ls' := [some (.ref 48), some (.ref 22), some (.int 2), some (.int 1), none, none, none]) dX2_becomesRule_23 rfl (Nat.le_of_ble_eq_true rfl) rfl rfl ?_
  refine ex_aload_n dX2_becomesRule_24 rfl rfl ?_
  refine ex_callV (a := 22) (rest := []) dX2_becomesRule_25 rfl qp_1_38 rfl rfl rfl rfl rfl (Nat.le_of_ble_eq_true rfl) (c_unbuiltBits_0 hT h1) (Nat.le_of_ble_eq_true rfl) ?_
  show Ex qm_lay _ mX2_becomesRule 28 [some (.ref 48), some (.ref 22), some (.int 2), some (.int 1), none, none, none] [.int (nI (tn_nb T))] (qm_wI σ 21 0) _ _
  refine ex_istore (ls' := [some (.ref 48), some (.ref 22), some (.int 2), some (.int 1), some (.int (nI (tn_nb T))), none, none]) dX2_becomesRule_28 rfl (Nat.le_of_ble_eq_true rfl) rfl rfl ?_
  refine ex_iconst (x := 0) dX2_becomesRule_30 rfl rfl ?_
  refine ex_istore (ls' := [some (.ref 48), some (.ref 22), some (.int 2), some (.int 1), some (.int (nI (tn_nb T))), some (.int 0), none]) dX2_becomesRule_31 rfl (Nat.le_of_ble_eq_true rfl) rfl rfl ?_
  exact hE

set_option maxRecDepth 8000 in
set_option maxHeartbeats 2000000 in
theorem l_digits {σ : qm_St} {os : List Nat} (h : OR σ os) : ∀ (n k : Nat), k + n = os.length → Ex qm_lay 0 mX2_digits 4 [some (.ref 48), some (.int (nI (dg (os.take k)))), some (.int (nI k))] [] σ (some (.int (nI (dg os)))) σ := by
  have h7 := h.2.1
  intro n
  induction n with
  | zero =>
    intro k hk
    refine ex_iload_n dX2_digits_4 rfl rfl ?_
    refine ex_aload_n dX2_digits_5 rfl rfl ?_
    refine ex_getI (s := 21) (x := nI os.length) dX2_digits_6 rfl qp_1_15 rfl rfl (h.1) ?_
    refine ex_icmp_ge (q := 32) (q2 := 12) dX2_digits_9 rfl rfl (fun _ => ?_) (fun hh => absurd (nI_le (a := os.length) (b := k) (by omega) (by omega)) hh)
    refine ex_iload_n dX2_digits_32 rfl rfl ?_
    exact ex_iret dX2_digits_33 rfl (by rw [List.take_of_length_le (by omega)]) rfl
  | succ n ih =>
    intro k hk
    refine ex_iload_n dX2_digits_4 rfl rfl ?_
    refine ex_aload_n dX2_digits_5 rfl rfl ?_
    refine ex_getI (s := 21) (x := nI os.length) dX2_digits_6 rfl qp_1_15 rfl rfl (h.1) ?_
    refine ex_icmp_ge (q := 32) (q2 := 12) dX2_digits_9 rfl rfl (fun hh => absurd hh (nI_ge (a := k) (b := os.length) (by omega) (by omega))) (fun _ => ?_)
    refine ex_iload_n dX2_digits_12 rfl rfl ?_
    refine ex_bipush (x := 10) dX2_digits_13 rfl rfl ?_
    refine ex_imul (z := nI (10 * dg (os.take k))) dX2_digits_15 rfl ((by rw [Nat.mul_comm]; exact pk_mul _ 10)) ?_
    refine ex_aload_n dX2_digits_16 rfl rfl ?_
    refine ex_getR (b := 49) dX2_digits_17 rfl qp_1_9 rfl rfl ?_
    refine ex_iload_n dX2_digits_20 rfl rfl ?_
    refine ex_iaload (k := k) (x := nI (os.getD k 0)) dX2_digits_21 rfl rfl (rfl) (by omega) (by decide) (h.2.2 k (by omega)) ?_
    refine ex_iadd (z := nI ((10 * dg (os.take k)) + (os.getD k 0))) dX2_digits_22 rfl (nI_add (10 * dg (os.take k)) (os.getD k 0)) ?_
    refine ex_iconst (x := 1) dX2_digits_23 rfl rfl ?_
    refine ex_iadd (z := nI (dg (os.take (k + 1)))) dX2_digits_24 rfl ((by rw [dg_take (by omega)]; exact nI_add _ 1)) ?_
    refine ex_istore_n (ls' := [some (.ref 48), some (.int (nI (dg (os.take (k + 1))))), some (.int (nI k))]) dX2_digits_25 rfl (Nat.le_of_ble_eq_true rfl) rfl rfl ?_
    refine ex_iinc (y := nI (k + 1)) (ls' := [some (.ref 48), some (.int (nI (dg (os.take (k + 1))))), some (.int (nI (k + 1)))]) dX2_digits_26 rfl rfl rfl (nI_add k 1) rfl ?_
    refine ex_goto (q := 4) dX2_digits_29 rfl ?_
    exact ih (k + 1) (by omega)

theorem c_digits {σ : qm_St} {os : List Nat} (h : OR σ os) : Ok qm_lay 0 mX2_digits [.ref 48] σ (some (.int (nI (dg os)))) σ := by
  refine Ok.of (ls := [some (.ref 48), none, none]) (Nat.le_of_ble_eq_true rfl) rfl ?_
  refine ex_iconst (x := 0) dX2_digits_0 rfl rfl ?_
  refine ex_istore_n (ls' := [some (.ref 48), some (.int 0), none]) dX2_digits_1 rfl (Nat.le_of_ble_eq_true rfl) rfl rfl ?_
  refine ex_iconst (x := 0) dX2_digits_2 rfl rfl ?_
  refine ex_istore_n (ls' := [some (.ref 48), some (.int 0), some (.int 0)]) dX2_digits_3 rfl (Nat.le_of_ble_eq_true rfl) rfl rfl ?_
  exact l_digits h os.length 0 (by omega)

set_option maxRecDepth 8000 in
set_option maxHeartbeats 2000000 in
theorem l_placeOfC {σ : qm_St} {os : List Nat} (h : OR σ os) (hos : ∀ l ∈ os, l < 7) {l : Nat} (hl : l < 7) : ∀ (r k : Nat), k + r = os.length → (∃ i, k ≤ i ∧ i < os.length ∧ os.getD i 0 = l) → Ex qm_lay 0 mX2_placeOf 2 [some (.ref 48), some (.int (nI l)), some (.int (nI k))] [] σ (some (.int (nI (pof os l r k)))) σ := by
  have h7 := h.2.1
  intro r
  induction r with
  | zero => intro k hk hi; obtain ⟨i, h1, h2, _⟩ := hi; omega
  | succ r ih =>
    intro k hk hi
    have hk7 := hos _ (getD_mem (os := os) (k := k) (by omega))
    by_cases c : os.getD k 0 = l
    · rw [show pof os l (r + 1) k = k by rw [pof, if_pos c]]
      refine ex_iload_n dX2_placeOf_2 rfl rfl ?_
      refine ex_aload_n dX2_placeOf_3 rfl rfl ?_
      refine ex_getI (s := 21) (x := nI os.length) dX2_placeOf_4 rfl qp_1_15 rfl rfl (h.1) ?_
      refine ex_icmp_ge (q := 28) (q2 := 10) dX2_placeOf_7 rfl rfl (fun hh => absurd hh (nI_ge (a := k) (b := os.length) (by omega) (by omega))) (fun _ => ?_)
      refine ex_aload_n dX2_placeOf_10 rfl rfl ?_
      refine ex_getR (b := 49) dX2_placeOf_11 rfl qp_1_9 rfl rfl ?_
      refine ex_iload_n dX2_placeOf_14 rfl rfl ?_
      refine ex_iaload (k := k) (x := nI (os.getD k 0)) dX2_placeOf_15 rfl rfl (rfl) (by omega) (by decide) (h.2.2 k (by omega)) ?_
      refine ex_iload_n dX2_placeOf_16 rfl rfl ?_
      refine ex_icmp_ne (q := 22) (q2 := 20) dX2_placeOf_17 rfl rfl (fun hh => absurd hh (fun zz => zz (congrArg nI c))) (fun _ => ?_)
      refine ex_iload_n dX2_placeOf_20 rfl rfl ?_
      exact ex_iret dX2_placeOf_21 rfl rfl rfl
    · rw [show pof os l (r + 1) k = pof os l r (k + 1) by rw [pof, if_neg c]]
      have hE := ih (k + 1) (by omega) (by
        obtain ⟨i, h1, h2, h3⟩ := hi
        refine ⟨i, ?_, h2, h3⟩
        rcases Nat.lt_or_ge k i with z | z
        · omega
        · exact absurd (by rw [show k = i by omega]; exact h3) c)
      refine ex_iload_n dX2_placeOf_2 rfl rfl ?_
      refine ex_aload_n dX2_placeOf_3 rfl rfl ?_
      refine ex_getI (s := 21) (x := nI os.length) dX2_placeOf_4 rfl qp_1_15 rfl rfl (h.1) ?_
      refine ex_icmp_ge (q := 28) (q2 := 10) dX2_placeOf_7 rfl rfl (fun hh => absurd hh (nI_ge (a := k) (b := os.length) (by omega) (by omega))) (fun _ => ?_)
      refine ex_aload_n dX2_placeOf_10 rfl rfl ?_
      refine ex_getR (b := 49) dX2_placeOf_11 rfl qp_1_9 rfl rfl ?_
      refine ex_iload_n dX2_placeOf_14 rfl rfl ?_
      refine ex_iaload (k := k) (x := nI (os.getD k 0)) dX2_placeOf_15 rfl rfl (rfl) (by omega) (by decide) (h.2.2 k (by omega)) ?_
      refine ex_iload_n dX2_placeOf_16 rfl rfl ?_
      refine ex_icmp_ne (q := 22) (q2 := 20) dX2_placeOf_17 rfl rfl (fun _ => ?_) (fun hh => absurd (fun zz => c ((nI_eq (by omega) (by omega)).mp zz)) hh)
      refine ex_iinc (y := nI (k + 1)) (ls' := [some (.ref 48), some (.int (nI l)), some (.int (nI (k + 1)))]) dX2_placeOf_22 rfl rfl rfl (nI_add k 1) rfl ?_
      refine ex_goto (q := 2) dX2_placeOf_25 rfl ?_
      exact hE

theorem c_placeOf {σ : qm_St} {os : List Nat} (h : OR σ os) (hos : ∀ l ∈ os, l < 7) {l : Nat} (hl : l ∈ os) : Ok qm_lay 0 mX2_placeOf [.ref 48, .int (nI l)] σ (some (.int (nI (pl os l)))) σ := by
  refine Ok.of (ls := [some (.ref 48), some (.int (nI l)), none]) (Nat.le_of_ble_eq_true rfl) rfl ?_
  refine ex_iconst (x := 0) dX2_placeOf_0 rfl rfl ?_
  refine ex_istore_n (ls' := [some (.ref 48), some (.int (nI l)), some (.int 0)]) dX2_placeOf_1 rfl (Nat.le_of_ble_eq_true rfl) rfl rfl ?_
  exact l_placeOfC h hos (hos l hl) os.length 0 (by omega) (by obtain ⟨i, h1, h2⟩ := mem_getD hl; exact ⟨i, Nat.zero_le i, h1, h2⟩)

set_option maxRecDepth 8000 in
set_option maxHeartbeats 2000000 in
theorem l_placeOfM {σ : qm_St} {os : List Nat} (h : RR σ os) (hos : ∀ l ∈ os, l < 7) {l : Nat} (hl : l < 7) : ∀ (r k : Nat), k + r = os.length → (∃ i, k ≤ i ∧ i < os.length ∧ os.getD i 0 = l) → Ex qm_lay 0 mX9_placeOf 2 [some (.ref 55), some (.int (nI l)), some (.int (nI k))] [] σ (some (.int (nI (pof os l r k)))) σ := by
  have h7 := h.2.1
  intro r
  induction r with
  | zero => intro k hk hi; obtain ⟨i, h1, h2, _⟩ := hi; omega
  | succ r ih =>
    intro k hk hi
    have hk7 := hos _ (getD_mem (os := os) (k := k) (by omega))
    by_cases c : os.getD k 0 = l
    · rw [show pof os l (r + 1) k = k by rw [pof, if_pos c]]
      refine ex_aload_n dX9_placeOf_2 rfl rfl ?_
      refine ex_getR (b := 74) dX9_placeOf_3 rfl qp_8_64 rfl rfl ?_
      refine ex_iload_n dX9_placeOf_6 rfl rfl ?_
      refine ex_iaload (k := k) (x := nI (os.getD k 0)) dX9_placeOf_7 rfl rfl (rfl) (by omega) (by decide) (h.2.2 k (by omega)) ?_
      refine ex_iload_n dX9_placeOf_8 rfl rfl ?_
      refine ex_icmp_eq (q := 18) (q2 := 12) dX9_placeOf_9 rfl rfl (fun _ => ?_) (fun hh => absurd (congrArg nI c) hh)
      refine ex_iload_n dX9_placeOf_18 rfl rfl ?_
      exact ex_iret dX9_placeOf_19 rfl rfl rfl
    · rw [show pof os l (r + 1) k = pof os l r (k + 1) by rw [pof, if_neg c]]
      have hE := ih (k + 1) (by omega) (by
        obtain ⟨i, h1, h2, h3⟩ := hi
        refine ⟨i, ?_, h2, h3⟩
        rcases Nat.lt_or_ge k i with z | z
        · omega
        · exact absurd (by rw [show k = i by omega]; exact h3) c)
      refine ex_aload_n dX9_placeOf_2 rfl rfl ?_
      refine ex_getR (b := 74) dX9_placeOf_3 rfl qp_8_64 rfl rfl ?_
      refine ex_iload_n dX9_placeOf_6 rfl rfl ?_
      refine ex_iaload (k := k) (x := nI (os.getD k 0)) dX9_placeOf_7 rfl rfl (rfl) (by omega) (by decide) (h.2.2 k (by omega)) ?_
      refine ex_iload_n dX9_placeOf_8 rfl rfl ?_
      refine ex_icmp_eq (q := 18) (q2 := 12) dX9_placeOf_9 rfl rfl (fun hh => absurd hh (fun zz => c ((nI_eq (by omega) (by omega)).mp zz))) (fun _ => ?_)
      refine ex_iinc (y := nI (k + 1)) (ls' := [some (.ref 55), some (.int (nI l)), some (.int (nI (k + 1)))]) dX9_placeOf_12 rfl rfl rfl (nI_add k 1) rfl ?_
      refine ex_goto (q := 2) dX9_placeOf_15 rfl ?_
      exact hE

theorem k_placeOf {σ : qm_St} {os : List Nat} (h : RR σ os) (hos : ∀ l ∈ os, l < 7) {l : Nat} (hl : l ∈ os) : Ok qm_lay 0 mX9_placeOf [.ref 55, .int (nI l)] σ (some (.int (nI (pl os l)))) σ := by
  refine Ok.of (ls := [some (.ref 55), some (.int (nI l)), none]) (Nat.le_of_ble_eq_true rfl) rfl ?_
  refine ex_iconst (x := 0) dX9_placeOf_0 rfl rfl ?_
  refine ex_istore_n (ls' := [some (.ref 55), some (.int (nI l)), some (.int 0)]) dX9_placeOf_1 rfl (Nat.le_of_ble_eq_true rfl) rfl rfl ?_
  exact l_placeOfM h hos (hos l hl) os.length 0 (by omega) (by obtain ⟨i, h1, h2⟩ := mem_getD hl; exact ⟨i, Nat.zero_le i, h1, h2⟩)

set_option maxRecDepth 8000 in
set_option maxHeartbeats 2000000 in
theorem c_swap {σ : qm_St} {os : List Nat} (h : OR σ os) (hos : ∀ l ∈ os, l < 7) {a b : Nat} (ha : a ∈ os) (hb : b ∈ os) : ∃ σ', Ok qm_lay 1 mX2_swap [.ref 48, .int (nI a), .int (nI b)] σ none σ' ∧ OR σ' (sw os (pl os a) (pl os b)) ∧ sm σ σ' 21 22 39 40 := by
  have h7 := h.2.1
  obtain ⟨a1, a2⟩ := pl_ok ha
  obtain ⟨b1, b2⟩ := pl_ok hb
  have hsw := h.sw a1 b1
  rw [a2, b2] at hsw
  refine ⟨_, ?_, hsw, ((sm.rf σ 21 22 39 40).wF _ (by omega)).wF _ (by omega)⟩
  refine Ok.of (ls := [some (.ref 48), some (.int (nI a)), some (.int (nI b)), none, none]) (Nat.le_of_ble_eq_true rfl) rfl ?_
  refine ex_aload_n dX2_swap_0 rfl rfl ?_
  refine ex_iload_n dX2_swap_1 rfl rfl ?_
  refine ex_callV (a := 48) (rest := []) dX2_swap_2 rfl qp_1_55 rfl rfl rfl rfl rfl (Nat.le_of_ble_eq_true rfl) (c_placeOf h hos ha) (Nat.le_of_ble_eq_true rfl) ?_
  show Ex qm_lay _ mX2_swap 5 [some (.ref 48), some (.int (nI a)), some (.int (nI b)), none, none] [.int (nI (pl os a))] σ _ _
  refine ex_istore_n (ls' := [some (.ref 48), some (.int (nI a)), some (.int (nI b)), some (.int (nI (pl os a))), none]) dX2_swap_5 rfl (Nat.le_of_ble_eq_true rfl) rfl rfl ?_
  refine ex_aload_n dX2_swap_6 rfl rfl ?_
  refine ex_iload_n dX2_swap_7 rfl rfl ?_
  refine ex_callV (a := 48) (rest := []) dX2_swap_8 rfl qp_1_55 rfl rfl rfl rfl rfl (Nat.le_of_ble_eq_true rfl) (c_placeOf h hos hb) (Nat.le_of_ble_eq_true rfl) ?_
  show Ex qm_lay _ mX2_swap 11 [some (.ref 48), some (.int (nI a)), some (.int (nI b)), some (.int (nI (pl os a))), none] [.int (nI (pl os b))] σ _ _
  refine ex_istore (ls' := [some (.ref 48), some (.int (nI a)), some (.int (nI b)), some (.int (nI (pl os a))), some (.int (nI (pl os b)))]) dX2_swap_11 rfl (Nat.le_of_ble_eq_true rfl) rfl rfl ?_
  refine ex_aload_n dX2_swap_13 rfl rfl ?_
  refine ex_getR (b := 49) dX2_swap_14 rfl qp_1_9 rfl rfl ?_
  refine ex_iload_n dX2_swap_17 rfl rfl ?_
  refine ex_iload_n dX2_swap_18 rfl rfl ?_
  refine ex_iastore (k := pl os a) (σ' := qm_wF σ 39 (pl os a) (nI b)) dX2_swap_19 rfl rfl (rfl) (by omega) (by decide) rfl ?_
  refine ex_aload_n dX2_swap_20 rfl rfl ?_
  refine ex_getR (b := 49) dX2_swap_21 rfl qp_1_9 rfl rfl ?_
  refine ex_iload dX2_swap_24 rfl rfl ?_
  refine ex_iload_n dX2_swap_26 rfl rfl ?_
  refine ex_iastore (k := pl os b) (σ' := qm_wF (qm_wF σ 39 (pl os a) (nI b)) 39 (pl os b) (nI a)) dX2_swap_27 rfl rfl (rfl) (by omega) (by decide) rfl ?_
  exact ex_vret dX2_swap_28 rfl rfl rfl

theorem ps1_mem (key : Nat → Nat) : ∀ (o : Nat) (os : List Nat), o < os.length → (ps1 key o os).length = os.length ∧ ∀ x, x ∈ ps1 key o os → x ∈ os
  | 0, os, _ => ⟨rfl, fun _ h => h⟩
  | o + 1, os, h => by
    rw [ps1]
    split
    · obtain ⟨g1, g2⟩ := ps1_mem key o (sw os o (o + 1)) (by rw [sw_len]; omega)
      exact ⟨by rw [g1, sw_len], fun x hx => (sw_memi (by omega) h x).mp (g2 x hx)⟩
    · exact ps1_mem key o os (by omega)
set_option maxRecDepth 8000 in
set_option maxHeartbeats 2000000 in
theorem l_pass1 {T : tn_T} (hT : tn_ok T) {k : Nat} : ∀ (o : Nat) (x y : Option Value) (os : List Nat) (hx : qm_free [none, none, none, none, x] 5 = true) (σ : qm_St), MR σ T → RR σ os → (∀ l ∈ os, l < tn_L T) → o < os.length → ∃ σ2 x2 y2, (qm_free [none, none, none, none, x2] 5 = true) ∧ (∀ v τ, Ex qm_lay 5 mX9_sortsRow 86 [some (.ref 55), some (.int 1), some (.int (nI k)), some (.int (nI 0)), x2, y2] [] σ2 v τ → Ex qm_lay 5 mX9_sortsRow 12 [some (.ref 55), some (.int 1), some (.int (nI k)), some (.int (nI o)), x, y] [] σ v τ) ∧ MR σ2 T ∧ RR σ2 (ps1 (ky T 1) o os) ∧ sm σ σ2 36 36 60 61 := by
  have hL := hT.1
  intro o
  induction o with
  | zero =>
    intro x y os hx σ h hor hos ho
    refine ⟨σ, x, y, hx, fun v τ hE => ?_, h, hor, sm.rf _ _ _ _ _⟩
    refine ex_iload_n dX9_sortsRow_12 rfl rfl ?_
    refine ex_if_le (q := 86) (q2 := 16) dX9_sortsRow_13 rfl rfl (fun _ => ?_) (fun hh => absurd (by decide) hh)
    exact hE
  | succ o ih =>
    intro x y os hx σ h hor hos ho
    have ho7 := hor.2.1
    obtain ⟨p, hp⟩ : ∃ p, p = os.getD o 0 := ⟨_, rfl⟩
    obtain ⟨q, hq⟩ : ∃ q, q = os.getD (o + 1) 0 := ⟨_, rfl⟩
    have hpL : p < tn_L T := by rw [hp]; exact hos _ (getD_mem (by omega))
    have hqL : q < tn_L T := by rw [hq]; exact hos _ (getD_mem ho)
    have rp : qm_rF σ 60 o = nI p := by rw [hp]; exact hor.2.2 o (by omega)
    have rq : qm_rF σ 60 (o + 1) = nI q := by rw [hq]; exact hor.2.2 (o + 1) ho
    have bp := tn_b_lt hT hpL
    have bq := tn_b_lt hT hqL
    have cp12 : tn_pc (tn_b T p) ≤ 12 := tn_pk_le _ 12
    have cq12 : tn_pc (tn_b T q) ≤ 12 := tn_pk_le _ 12
    have ek : ky T 1 q < ky T 1 p ↔ tn_pc (tn_b T p) < tn_pc (tn_b T q) := by
      show 12 - tn_pc (tn_b T q) < 12 - tn_pc (tn_b T p) ↔ _
      omega
    by_cases c : tn_pc (tn_b T p) < tn_pc (tn_b T q)
    · rw [show ps1 (ky T 1) (o + 1) os = ps1 (ky T 1) o (sw os o (o + 1)) by rw [ps1, ← hp, ← hq, if_pos (ek.mpr c)]]
      obtain ⟨σ1, hO, hR1, hs1⟩ := k_swapsRow hor (show o < os.length by omega) ho
      obtain ⟨σ2, x2, y2, hx2, hE, g1, g2, g3⟩ := ih (some (.int (nI (tn_pc (tn_b T p))))) (some (.int (nI (tn_pc (tn_b T q))))) (sw os o (o + 1)) rfl σ1 (h.sm hs1 (by omega) (by omega)) hR1 (sw_mem (by omega) ho hos) (by rw [sw_len]; omega)
      refine ⟨σ2, x2, y2, hx2, fun v τ hz => ?_, g1, g2, hs1.tr g3⟩
      refine ex_iload_n dX9_sortsRow_12 rfl rfl ?_
      refine ex_if_le (q := 86) (q2 := 16) dX9_sortsRow_13 rfl rfl (fun hh => absurd hh (nI_ge (a := 0) (b := o + 1) (by omega) (by omega))) (fun _ => ?_)
      refine ex_aload_n dX9_sortsRow_16 rfl rfl ?_
      refine ex_getR (b := 58) dX9_sortsRow_17 rfl qp_8_16 rfl rfl ?_
      refine ex_aload_n dX9_sortsRow_20 rfl rfl ?_
      refine ex_getR (b := 74) dX9_sortsRow_21 rfl qp_8_64 rfl rfl ?_
      refine ex_iload_n dX9_sortsRow_24 rfl rfl ?_
      refine ex_iconst (x := 1) dX9_sortsRow_25 rfl rfl ?_
      refine ex_isub (z := nI o) dX9_sortsRow_26 rfl (pk_sub (a := o + 1) (b := 1) (by omega)) ?_
      refine ex_iaload (k := o) (x := nI p) dX9_sortsRow_27 rfl rfl (rfl) (by omega) (by decide) (rp) ?_
      refine ex_iaload (k := p) (x := nI (tn_b T p)) dX9_sortsRow_28 rfl rfl (rfl) (by omega) (by decide) (MR.bb h (by omega)) ?_
      refine ex_callS (rest := []) dX9_sortsRow_29 rfl qp_8_92 rfl rfl rfl (Nat.le_of_ble_eq_true rfl) (k_ones (by omega)) (Nat.le_of_ble_eq_true rfl) ?_
      show Ex qm_lay _ mX9_sortsRow 32 [some (.ref 55), some (.int 1), some (.int (nI k)), some (.int (nI (o + 1))), x, y] [.int (nI (tn_pc (tn_b T p)))] σ _ _
      refine ex_istore (ls' := [some (.ref 55), some (.int 1), some (.int (nI k)), some (.int (nI (o + 1))), some (.int (nI (tn_pc (tn_b T p)))), y]) dX9_sortsRow_32 rfl (Nat.le_of_ble_eq_true rfl) rfl rfl ?_
      refine ex_aload_n dX9_sortsRow_34 rfl rfl ?_
      refine ex_getR (b := 58) dX9_sortsRow_35 rfl qp_8_16 rfl rfl ?_
      refine ex_aload_n dX9_sortsRow_38 rfl rfl ?_
      refine ex_getR (b := 74) dX9_sortsRow_39 rfl qp_8_64 rfl rfl ?_
      refine ex_iload_n dX9_sortsRow_42 rfl rfl ?_
      refine ex_iaload (k := o + 1) (x := nI q) dX9_sortsRow_43 rfl rfl (rfl) (by omega) (by decide) (rq) ?_
      refine ex_iaload (k := q) (x := nI (tn_b T q)) dX9_sortsRow_44 rfl rfl (rfl) (by omega) (by decide) (MR.bb h (by omega)) ?_
      refine ex_callS (rest := []) dX9_sortsRow_45 rfl qp_8_92 rfl rfl rfl (Nat.le_of_ble_eq_true rfl) (k_ones (by omega)) (Nat.le_of_ble_eq_true rfl) ?_
      show Ex qm_lay _ mX9_sortsRow 48 [some (.ref 55), some (.int 1), some (.int (nI k)), some (.int (nI (o + 1))), some (.int (nI (tn_pc (tn_b T p)))), y] [.int (nI (tn_pc (tn_b T q)))] σ _ _
      refine ex_istore (ls' := [some (.ref 55), some (.int 1), some (.int (nI k)), some (.int (nI (o + 1))), some (.int (nI (tn_pc (tn_b T p)))), some (.int (nI (tn_pc (tn_b T q))))]) dX9_sortsRow_48 rfl (Nat.le_of_ble_eq_true rfl) rfl rfl ?_
      refine ex_iload_n dX9_sortsRow_50 rfl rfl ?_
      refine ex_iconst (x := 1) dX9_sortsRow_51 rfl rfl ?_
      refine ex_icmp_ne (q := 65) (q2 := 55) dX9_sortsRow_52 rfl rfl (fun hh => absurd hh (by decide)) (fun _ => ?_)
      refine ex_iload dX9_sortsRow_55 rfl rfl ?_
      refine ex_iload dX9_sortsRow_57 rfl rfl ?_
      refine ex_icmp_le (q := 80) (q2 := 62) dX9_sortsRow_59 rfl rfl (fun hh => absurd hh (nI_ge (a := (tn_pc (tn_b T p))) (b := (tn_pc (tn_b T q))) (by omega) (by omega))) (fun _ => ?_)
      refine ex_goto (q := 72) dX9_sortsRow_62 rfl ?_
      refine ex_aload_n dX9_sortsRow_72 rfl rfl ?_
      refine ex_iload_n dX9_sortsRow_73 rfl rfl ?_
      refine ex_iconst (x := 1) dX9_sortsRow_74 rfl rfl ?_
      refine ex_isub (z := nI o) dX9_sortsRow_75 rfl (pk_sub (a := o + 1) (b := 1) (by omega)) ?_
      refine ex_iload_n dX9_sortsRow_76 rfl rfl ?_
      refine ex_callV (a := 55) (rest := []) dX9_sortsRow_77 rfl qp_8_238 rfl rfl rfl rfl rfl (Nat.le_of_ble_eq_true rfl) (hO) (Nat.le_of_ble_eq_true rfl) ?_
      show Ex qm_lay _ mX9_sortsRow 80 [some (.ref 55), some (.int 1), some (.int (nI k)), some (.int (nI (o + 1))), some (.int (nI (tn_pc (tn_b T p)))), some (.int (nI (tn_pc (tn_b T q))))] [] σ1 _ _
      refine ex_iinc (y := nI o) (ls' := [some (.ref 55), some (.int 1), some (.int (nI k)), some (.int (nI o)), some (.int (nI (tn_pc (tn_b T p)))), some (.int (nI (tn_pc (tn_b T q))))]) dX9_sortsRow_80 rfl rfl rfl (pk_m1 o) rfl ?_
      refine ex_goto (q := 12) dX9_sortsRow_83 rfl ?_
      exact hE v τ hz
    · rw [show ps1 (ky T 1) (o + 1) os = ps1 (ky T 1) o os by rw [ps1, ← hp, ← hq, if_neg (fun z => c (ek.mp z))]]
      obtain ⟨σ2, x2, y2, hx2, hE, g1, g2, g3⟩ := ih (some (.int (nI (tn_pc (tn_b T p))))) (some (.int (nI (tn_pc (tn_b T q))))) os rfl σ h hor hos (by omega)
      refine ⟨σ2, x2, y2, hx2, fun v τ hz => ?_, g1, g2, g3⟩
      refine ex_iload_n dX9_sortsRow_12 rfl rfl ?_
      refine ex_if_le (q := 86) (q2 := 16) dX9_sortsRow_13 rfl rfl (fun hh => absurd hh (nI_ge (a := 0) (b := o + 1) (by omega) (by omega))) (fun _ => ?_)
      refine ex_aload_n dX9_sortsRow_16 rfl rfl ?_
      refine ex_getR (b := 58) dX9_sortsRow_17 rfl qp_8_16 rfl rfl ?_
      refine ex_aload_n dX9_sortsRow_20 rfl rfl ?_
      refine ex_getR (b := 74) dX9_sortsRow_21 rfl qp_8_64 rfl rfl ?_
      refine ex_iload_n dX9_sortsRow_24 rfl rfl ?_
      refine ex_iconst (x := 1) dX9_sortsRow_25 rfl rfl ?_
      refine ex_isub (z := nI o) dX9_sortsRow_26 rfl (pk_sub (a := o + 1) (b := 1) (by omega)) ?_
      refine ex_iaload (k := o) (x := nI p) dX9_sortsRow_27 rfl rfl (rfl) (by omega) (by decide) (rp) ?_
      refine ex_iaload (k := p) (x := nI (tn_b T p)) dX9_sortsRow_28 rfl rfl (rfl) (by omega) (by decide) (MR.bb h (by omega)) ?_
      refine ex_callS (rest := []) dX9_sortsRow_29 rfl qp_8_92 rfl rfl rfl (Nat.le_of_ble_eq_true rfl) (k_ones (by omega)) (Nat.le_of_ble_eq_true rfl) ?_
      show Ex qm_lay _ mX9_sortsRow 32 [some (.ref 55), some (.int 1), some (.int (nI k)), some (.int (nI (o + 1))), x, y] [.int (nI (tn_pc (tn_b T p)))] σ _ _
      refine ex_istore (ls' := [some (.ref 55), some (.int 1), some (.int (nI k)), some (.int (nI (o + 1))), some (.int (nI (tn_pc (tn_b T p)))), y]) dX9_sortsRow_32 rfl (Nat.le_of_ble_eq_true rfl) rfl rfl ?_
      refine ex_aload_n dX9_sortsRow_34 rfl rfl ?_
      refine ex_getR (b := 58) dX9_sortsRow_35 rfl qp_8_16 rfl rfl ?_
      refine ex_aload_n dX9_sortsRow_38 rfl rfl ?_
      refine ex_getR (b := 74) dX9_sortsRow_39 rfl qp_8_64 rfl rfl ?_
      refine ex_iload_n dX9_sortsRow_42 rfl rfl ?_
      refine ex_iaload (k := o + 1) (x := nI q) dX9_sortsRow_43 rfl rfl (rfl) (by omega) (by decide) (rq) ?_
      refine ex_iaload (k := q) (x := nI (tn_b T q)) dX9_sortsRow_44 rfl rfl (rfl) (by omega) (by decide) (MR.bb h (by omega)) ?_
      refine ex_callS (rest := []) dX9_sortsRow_45 rfl qp_8_92 rfl rfl rfl (Nat.le_of_ble_eq_true rfl) (k_ones (by omega)) (Nat.le_of_ble_eq_true rfl) ?_
      show Ex qm_lay _ mX9_sortsRow 48 [some (.ref 55), some (.int 1), some (.int (nI k)), some (.int (nI (o + 1))), some (.int (nI (tn_pc (tn_b T p)))), y] [.int (nI (tn_pc (tn_b T q)))] σ _ _
      refine ex_istore (ls' := [some (.ref 55), some (.int 1), some (.int (nI k)), some (.int (nI (o + 1))), some (.int (nI (tn_pc (tn_b T p)))), some (.int (nI (tn_pc (tn_b T q))))]) dX9_sortsRow_48 rfl (Nat.le_of_ble_eq_true rfl) rfl rfl ?_
      refine ex_iload_n dX9_sortsRow_50 rfl rfl ?_
      refine ex_iconst (x := 1) dX9_sortsRow_51 rfl rfl ?_
      refine ex_icmp_ne (q := 65) (q2 := 55) dX9_sortsRow_52 rfl rfl (fun hh => absurd hh (by decide)) (fun _ => ?_)
      refine ex_iload dX9_sortsRow_55 rfl rfl ?_
      refine ex_iload dX9_sortsRow_57 rfl rfl ?_
      refine ex_icmp_le (q := 80) (q2 := 62) dX9_sortsRow_59 rfl rfl (fun _ => ?_) (fun hh => absurd (nI_le (a := (tn_pc (tn_b T q))) (b := (tn_pc (tn_b T p))) (by omega) (by omega)) hh)
      refine ex_iinc (y := nI o) (ls' := [some (.ref 55), some (.int 1), some (.int (nI k)), some (.int (nI o)), some (.int (nI (tn_pc (tn_b T p)))), some (.int (nI (tn_pc (tn_b T q))))]) dX9_sortsRow_80 rfl rfl rfl (pk_m1 o) rfl ?_
      refine ex_goto (q := 12) dX9_sortsRow_83 rfl ?_
      exact hE v τ hz

set_option maxRecDepth 8000 in
set_option maxHeartbeats 2000000 in
theorem l_sort1 {T : tn_T} (hT : tn_ok T) : ∀ (r k : Nat) (z x y : Option Value) (os : List Nat) (hz : qm_free [none, none, none, z] 4 = true) (hx : qm_free [none, none, none, none, x] 5 = true) (σ : qm_St), k + r = os.length ∨ (r = 0 ∧ os.length ≤ k) → k ≤ 8 → MR σ T → RR σ os → (∀ l ∈ os, l < tn_L T) → ∃ σ', Ex qm_lay 5 mX9_sortsRow 2 [some (.ref 55), some (.int 1), some (.int (nI k)), z, x, y] [] σ none σ' ∧ MR σ' T ∧ RR σ' (srt (ky T 1) r k os) ∧ sm σ σ' 36 36 60 61 := by
  have hL := hT.1
  intro r
  induction r with
  | zero =>
    intro k z x y os hz hx σ hk hk8 h hor hos
    have ho7 := hor.2.1
    refine ⟨σ, ?_, h, hor, sm.rf _ _ _ _ _⟩
    refine ex_iload_n dX9_sortsRow_2 rfl rfl ?_
    refine ex_aload_n dX9_sortsRow_3 rfl rfl ?_
    refine ex_getI (s := 44) (x := nI os.length) dX9_sortsRow_4 rfl qp_8_235 rfl rfl (hor.1) ?_
    refine ex_icmp_ge (q := 92) (q2 := 10) dX9_sortsRow_7 rfl rfl (fun _ => ?_) (fun hh => absurd (nI_le (a := os.length) (b := k) (by omega) (by omega)) hh)
    exact ex_vret dX9_sortsRow_92 rfl rfl rfl
  | succ r ih =>
    intro k z x y os hz hx σ hk hk8 h hor hos
    have ho7 := hor.2.1
    have hk1 : k + (r + 1) = os.length := by omega
    obtain ⟨σ1, x2, y2, hx2, hE, g1, g2, g3⟩ := l_pass1 hT (k := k) k x y os hx σ h hor hos (by omega)
    have hm2 := ps1_mem (ky T 1) k os (by omega)
    obtain ⟨σ2, hE2, k1, k2, k3⟩ := ih (k + 1) (some (.int (nI 0))) x2 y2 (ps1 (ky T 1) k os) rfl hx2 σ1 (Or.inl (by rw [hm2.1]; omega)) (by omega) g1 g2 (fun l hl => hos l (hm2.2 l hl))
    refine ⟨σ2, ?_, k1, k2, g3.tr k3⟩
    refine ex_iload_n dX9_sortsRow_2 rfl rfl ?_
    refine ex_aload_n dX9_sortsRow_3 rfl rfl ?_
    refine ex_getI (s := 44) (x := nI os.length) dX9_sortsRow_4 rfl qp_8_235 rfl rfl (hor.1) ?_
    refine ex_icmp_ge (q := 92) (q2 := 10) dX9_sortsRow_7 rfl rfl (fun hh => absurd hh (nI_ge (a := k) (b := os.length) (by omega) (by omega))) (fun _ => ?_)
    refine ex_iload_n dX9_sortsRow_10 rfl rfl ?_
    refine ex_istore_n (ls' := [some (.ref 55), some (.int 1), some (.int (nI k)), some (.int (nI k)), x, y]) dX9_sortsRow_11 rfl (Nat.le_of_ble_eq_true rfl) rfl rfl ?_
    refine hE _ _ ?_
    refine ex_iinc (y := nI (k + 1)) (ls' := [some (.ref 55), some (.int 1), some (.int (nI (k + 1))), some (.int (nI 0)), x2, y2]) dX9_sortsRow_86 rfl rfl rfl (nI_add k 1) rfl ?_
    refine ex_goto (q := 2) dX9_sortsRow_89 rfl ?_
    exact hE2

set_option maxRecDepth 8000 in
set_option maxHeartbeats 2000000 in
theorem k_sortsRow1 {σ : qm_St} {T : tn_T} (hT : tn_ok T) (h : MR σ T) {os : List Nat} (hor : RR σ os) (hos : ∀ l ∈ os, l < tn_L T) : ∃ σ', Ok qm_lay 5 mX9_sortsRow [.ref 55, .int 1] σ none σ' ∧ MR σ' T ∧ RR σ' (srt (ky T 1) (os.length - 1) 1 os) ∧ sm σ σ' 36 36 60 61 := by
  obtain ⟨σ', hE, g1, g2, g3⟩ := l_sort1 hT (os.length - 1) 1 none none none os rfl rfl σ (by omega) (by decide) h hor hos
  refine ⟨σ', ?_, g1, g2, g3⟩
  refine Ok.of (ls := [some (.ref 55), some (.int 1), none, none, none, none]) (Nat.le_of_ble_eq_true rfl) rfl ?_
  refine ex_iconst (x := 1) dX9_sortsRow_0 rfl rfl ?_
  refine ex_istore_n (ls' := [some (.ref 55), some (.int 1), some (.int 1), none, none, none]) dX9_sortsRow_1 rfl (Nat.le_of_ble_eq_true rfl) rfl rfl ?_
  exact hE

set_option maxRecDepth 8000 in
set_option maxHeartbeats 2000000 in
theorem l_pass2 {T : tn_T} (hT : tn_ok T) {k : Nat} : ∀ (o : Nat) (x y : Option Value) (os : List Nat) (hx : qm_free [none, none, none, none, x] 5 = true) (σ : qm_St), MR σ T → RR σ os → (∀ l ∈ os, l < tn_L T) → o < os.length → ∃ σ2 x2 y2, (qm_free [none, none, none, none, x2] 5 = true) ∧ (∀ v τ, Ex qm_lay 5 mX9_sortsRow 86 [some (.ref 55), some (.int 2), some (.int (nI k)), some (.int (nI 0)), x2, y2] [] σ2 v τ → Ex qm_lay 5 mX9_sortsRow 12 [some (.ref 55), some (.int 2), some (.int (nI k)), some (.int (nI o)), x, y] [] σ v τ) ∧ MR σ2 T ∧ RR σ2 (ps1 (ky T 2) o os) ∧ sm σ σ2 36 36 60 61 := by
  have hL := hT.1
  intro o
  induction o with
  | zero =>
    intro x y os hx σ h hor hos ho
    refine ⟨σ, x, y, hx, fun v τ hE => ?_, h, hor, sm.rf _ _ _ _ _⟩
    refine ex_iload_n dX9_sortsRow_12 rfl rfl ?_
    refine ex_if_le (q := 86) (q2 := 16) dX9_sortsRow_13 rfl rfl (fun _ => ?_) (fun hh => absurd (by decide) hh)
    exact hE
  | succ o ih =>
    intro x y os hx σ h hor hos ho
    have ho7 := hor.2.1
    obtain ⟨p, hp⟩ : ∃ p, p = os.getD o 0 := ⟨_, rfl⟩
    obtain ⟨q, hq⟩ : ∃ q, q = os.getD (o + 1) 0 := ⟨_, rfl⟩
    have hpL : p < tn_L T := by rw [hp]; exact hos _ (getD_mem (by omega))
    have hqL : q < tn_L T := by rw [hq]; exact hos _ (getD_mem ho)
    have rp : qm_rF σ 60 o = nI p := by rw [hp]; exact hor.2.2 o (by omega)
    have rq : qm_rF σ 60 (o + 1) = nI q := by rw [hq]; exact hor.2.2 (o + 1) ho
    have bp := tn_b_lt hT hpL
    have bq := tn_b_lt hT hqL
    have cp12 : tn_pc (tn_b T p) ≤ 12 := tn_pk_le _ 12
    have cq12 : tn_pc (tn_b T q) ≤ 12 := tn_pk_le _ 12
    have ek : ky T 2 q < ky T 2 p ↔ tn_pc (tn_b T q) < tn_pc (tn_b T p) := by
      show tn_pc (tn_b T q) < tn_pc (tn_b T p) ↔ _
      omega
    by_cases c : tn_pc (tn_b T q) < tn_pc (tn_b T p)
    · rw [show ps1 (ky T 2) (o + 1) os = ps1 (ky T 2) o (sw os o (o + 1)) by rw [ps1, ← hp, ← hq, if_pos (ek.mpr c)]]
      obtain ⟨σ1, hO, hR1, hs1⟩ := k_swapsRow hor (show o < os.length by omega) ho
      obtain ⟨σ2, x2, y2, hx2, hE, g1, g2, g3⟩ := ih (some (.int (nI (tn_pc (tn_b T p))))) (some (.int (nI (tn_pc (tn_b T q))))) (sw os o (o + 1)) rfl σ1 (h.sm hs1 (by omega) (by omega)) hR1 (sw_mem (by omega) ho hos) (by rw [sw_len]; omega)
      refine ⟨σ2, x2, y2, hx2, fun v τ hz => ?_, g1, g2, hs1.tr g3⟩
      refine ex_iload_n dX9_sortsRow_12 rfl rfl ?_
      refine ex_if_le (q := 86) (q2 := 16) dX9_sortsRow_13 rfl rfl (fun hh => absurd hh (nI_ge (a := 0) (b := o + 1) (by omega) (by omega))) (fun _ => ?_)
      refine ex_aload_n dX9_sortsRow_16 rfl rfl ?_
      refine ex_getR (b := 58) dX9_sortsRow_17 rfl qp_8_16 rfl rfl ?_
      refine ex_aload_n dX9_sortsRow_20 rfl rfl ?_
      refine ex_getR (b := 74) dX9_sortsRow_21 rfl qp_8_64 rfl rfl ?_
      refine ex_iload_n dX9_sortsRow_24 rfl rfl ?_
      refine ex_iconst (x := 1) dX9_sortsRow_25 rfl rfl ?_
      refine ex_isub (z := nI o) dX9_sortsRow_26 rfl (pk_sub (a := o + 1) (b := 1) (by omega)) ?_
      refine ex_iaload (k := o) (x := nI p) dX9_sortsRow_27 rfl rfl (rfl) (by omega) (by decide) (rp) ?_
      refine ex_iaload (k := p) (x := nI (tn_b T p)) dX9_sortsRow_28 rfl rfl (rfl) (by omega) (by decide) (MR.bb h (by omega)) ?_
      refine ex_callS (rest := []) dX9_sortsRow_29 rfl qp_8_92 rfl rfl rfl (Nat.le_of_ble_eq_true rfl) (k_ones (by omega)) (Nat.le_of_ble_eq_true rfl) ?_
      show Ex qm_lay _ mX9_sortsRow 32 [some (.ref 55), some (.int 2), some (.int (nI k)), some (.int (nI (o + 1))), x, y] [.int (nI (tn_pc (tn_b T p)))] σ _ _
      refine ex_istore (ls' := [some (.ref 55), some (.int 2), some (.int (nI k)), some (.int (nI (o + 1))), some (.int (nI (tn_pc (tn_b T p)))), y]) dX9_sortsRow_32 rfl (Nat.le_of_ble_eq_true rfl) rfl rfl ?_
      refine ex_aload_n dX9_sortsRow_34 rfl rfl ?_
      refine ex_getR (b := 58) dX9_sortsRow_35 rfl qp_8_16 rfl rfl ?_
      refine ex_aload_n dX9_sortsRow_38 rfl rfl ?_
      refine ex_getR (b := 74) dX9_sortsRow_39 rfl qp_8_64 rfl rfl ?_
      refine ex_iload_n dX9_sortsRow_42 rfl rfl ?_
      refine ex_iaload (k := o + 1) (x := nI q) dX9_sortsRow_43 rfl rfl (rfl) (by omega) (by decide) (rq) ?_
      refine ex_iaload (k := q) (x := nI (tn_b T q)) dX9_sortsRow_44 rfl rfl (rfl) (by omega) (by decide) (MR.bb h (by omega)) ?_
      refine ex_callS (rest := []) dX9_sortsRow_45 rfl qp_8_92 rfl rfl rfl (Nat.le_of_ble_eq_true rfl) (k_ones (by omega)) (Nat.le_of_ble_eq_true rfl) ?_
      show Ex qm_lay _ mX9_sortsRow 48 [some (.ref 55), some (.int 2), some (.int (nI k)), some (.int (nI (o + 1))), some (.int (nI (tn_pc (tn_b T p)))), y] [.int (nI (tn_pc (tn_b T q)))] σ _ _
      refine ex_istore (ls' := [some (.ref 55), some (.int 2), some (.int (nI k)), some (.int (nI (o + 1))), some (.int (nI (tn_pc (tn_b T p)))), some (.int (nI (tn_pc (tn_b T q))))]) dX9_sortsRow_48 rfl (Nat.le_of_ble_eq_true rfl) rfl rfl ?_
      refine ex_iload_n dX9_sortsRow_50 rfl rfl ?_
      refine ex_iconst (x := 1) dX9_sortsRow_51 rfl rfl ?_
      refine ex_icmp_ne (q := 65) (q2 := 55) dX9_sortsRow_52 rfl rfl (fun _ => ?_) (fun hh => absurd (by decide) hh)
      refine ex_iload dX9_sortsRow_65 rfl rfl ?_
      refine ex_iload dX9_sortsRow_67 rfl rfl ?_
      refine ex_icmp_ge (q := 80) (q2 := 72) dX9_sortsRow_69 rfl rfl (fun hh => absurd hh (nI_ge (a := (tn_pc (tn_b T q))) (b := (tn_pc (tn_b T p))) (by omega) (by omega))) (fun _ => ?_)
      refine ex_aload_n dX9_sortsRow_72 rfl rfl ?_
      refine ex_iload_n dX9_sortsRow_73 rfl rfl ?_
      refine ex_iconst (x := 1) dX9_sortsRow_74 rfl rfl ?_
      refine ex_isub (z := nI o) dX9_sortsRow_75 rfl (pk_sub (a := o + 1) (b := 1) (by omega)) ?_
      refine ex_iload_n dX9_sortsRow_76 rfl rfl ?_
      refine ex_callV (a := 55) (rest := []) dX9_sortsRow_77 rfl qp_8_238 rfl rfl rfl rfl rfl (Nat.le_of_ble_eq_true rfl) (hO) (Nat.le_of_ble_eq_true rfl) ?_
      show Ex qm_lay _ mX9_sortsRow 80 [some (.ref 55), some (.int 2), some (.int (nI k)), some (.int (nI (o + 1))), some (.int (nI (tn_pc (tn_b T p)))), some (.int (nI (tn_pc (tn_b T q))))] [] σ1 _ _
      refine ex_iinc (y := nI o) (ls' := [some (.ref 55), some (.int 2), some (.int (nI k)), some (.int (nI o)), some (.int (nI (tn_pc (tn_b T p)))), some (.int (nI (tn_pc (tn_b T q))))]) dX9_sortsRow_80 rfl rfl rfl (pk_m1 o) rfl ?_
      refine ex_goto (q := 12) dX9_sortsRow_83 rfl ?_
      exact hE v τ hz
    · rw [show ps1 (ky T 2) (o + 1) os = ps1 (ky T 2) o os by rw [ps1, ← hp, ← hq, if_neg (fun z => c (ek.mp z))]]
      obtain ⟨σ2, x2, y2, hx2, hE, g1, g2, g3⟩ := ih (some (.int (nI (tn_pc (tn_b T p))))) (some (.int (nI (tn_pc (tn_b T q))))) os rfl σ h hor hos (by omega)
      refine ⟨σ2, x2, y2, hx2, fun v τ hz => ?_, g1, g2, g3⟩
      refine ex_iload_n dX9_sortsRow_12 rfl rfl ?_
      refine ex_if_le (q := 86) (q2 := 16) dX9_sortsRow_13 rfl rfl (fun hh => absurd hh (nI_ge (a := 0) (b := o + 1) (by omega) (by omega))) (fun _ => ?_)
      refine ex_aload_n dX9_sortsRow_16 rfl rfl ?_
      refine ex_getR (b := 58) dX9_sortsRow_17 rfl qp_8_16 rfl rfl ?_
      refine ex_aload_n dX9_sortsRow_20 rfl rfl ?_
      refine ex_getR (b := 74) dX9_sortsRow_21 rfl qp_8_64 rfl rfl ?_
      refine ex_iload_n dX9_sortsRow_24 rfl rfl ?_
      refine ex_iconst (x := 1) dX9_sortsRow_25 rfl rfl ?_
      refine ex_isub (z := nI o) dX9_sortsRow_26 rfl (pk_sub (a := o + 1) (b := 1) (by omega)) ?_
      refine ex_iaload (k := o) (x := nI p) dX9_sortsRow_27 rfl rfl (rfl) (by omega) (by decide) (rp) ?_
      refine ex_iaload (k := p) (x := nI (tn_b T p)) dX9_sortsRow_28 rfl rfl (rfl) (by omega) (by decide) (MR.bb h (by omega)) ?_
      refine ex_callS (rest := []) dX9_sortsRow_29 rfl qp_8_92 rfl rfl rfl (Nat.le_of_ble_eq_true rfl) (k_ones (by omega)) (Nat.le_of_ble_eq_true rfl) ?_
      show Ex qm_lay _ mX9_sortsRow 32 [some (.ref 55), some (.int 2), some (.int (nI k)), some (.int (nI (o + 1))), x, y] [.int (nI (tn_pc (tn_b T p)))] σ _ _
      refine ex_istore (ls' := [some (.ref 55), some (.int 2), some (.int (nI k)), some (.int (nI (o + 1))), some (.int (nI (tn_pc (tn_b T p)))), y]) dX9_sortsRow_32 rfl (Nat.le_of_ble_eq_true rfl) rfl rfl ?_
      refine ex_aload_n dX9_sortsRow_34 rfl rfl ?_
      refine ex_getR (b := 58) dX9_sortsRow_35 rfl qp_8_16 rfl rfl ?_
      refine ex_aload_n dX9_sortsRow_38 rfl rfl ?_
      refine ex_getR (b := 74) dX9_sortsRow_39 rfl qp_8_64 rfl rfl ?_
      refine ex_iload_n dX9_sortsRow_42 rfl rfl ?_
      refine ex_iaload (k := o + 1) (x := nI q) dX9_sortsRow_43 rfl rfl (rfl) (by omega) (by decide) (rq) ?_
      refine ex_iaload (k := q) (x := nI (tn_b T q)) dX9_sortsRow_44 rfl rfl (rfl) (by omega) (by decide) (MR.bb h (by omega)) ?_
      refine ex_callS (rest := []) dX9_sortsRow_45 rfl qp_8_92 rfl rfl rfl (Nat.le_of_ble_eq_true rfl) (k_ones (by omega)) (Nat.le_of_ble_eq_true rfl) ?_
      show Ex qm_lay _ mX9_sortsRow 48 [some (.ref 55), some (.int 2), some (.int (nI k)), some (.int (nI (o + 1))), some (.int (nI (tn_pc (tn_b T p)))), y] [.int (nI (tn_pc (tn_b T q)))] σ _ _
      refine ex_istore (ls' := [some (.ref 55), some (.int 2), some (.int (nI k)), some (.int (nI (o + 1))), some (.int (nI (tn_pc (tn_b T p)))), some (.int (nI (tn_pc (tn_b T q))))]) dX9_sortsRow_48 rfl (Nat.le_of_ble_eq_true rfl) rfl rfl ?_
      refine ex_iload_n dX9_sortsRow_50 rfl rfl ?_
      refine ex_iconst (x := 1) dX9_sortsRow_51 rfl rfl ?_
      refine ex_icmp_ne (q := 65) (q2 := 55) dX9_sortsRow_52 rfl rfl (fun _ => ?_) (fun hh => absurd (by decide) hh)
      refine ex_iload dX9_sortsRow_65 rfl rfl ?_
      refine ex_iload dX9_sortsRow_67 rfl rfl ?_
      refine ex_icmp_ge (q := 80) (q2 := 72) dX9_sortsRow_69 rfl rfl (fun _ => ?_) (fun hh => absurd (nI_le (a := (tn_pc (tn_b T p))) (b := (tn_pc (tn_b T q))) (by omega) (by omega)) hh)
      refine ex_iinc (y := nI o) (ls' := [some (.ref 55), some (.int 2), some (.int (nI k)), some (.int (nI o)), some (.int (nI (tn_pc (tn_b T p)))), some (.int (nI (tn_pc (tn_b T q))))]) dX9_sortsRow_80 rfl rfl rfl (pk_m1 o) rfl ?_
      refine ex_goto (q := 12) dX9_sortsRow_83 rfl ?_
      exact hE v τ hz

set_option maxRecDepth 8000 in
set_option maxHeartbeats 2000000 in
theorem l_sort2 {T : tn_T} (hT : tn_ok T) : ∀ (r k : Nat) (z x y : Option Value) (os : List Nat) (hz : qm_free [none, none, none, z] 4 = true) (hx : qm_free [none, none, none, none, x] 5 = true) (σ : qm_St), k + r = os.length ∨ (r = 0 ∧ os.length ≤ k) → k ≤ 8 → MR σ T → RR σ os → (∀ l ∈ os, l < tn_L T) → ∃ σ', Ex qm_lay 5 mX9_sortsRow 2 [some (.ref 55), some (.int 2), some (.int (nI k)), z, x, y] [] σ none σ' ∧ MR σ' T ∧ RR σ' (srt (ky T 2) r k os) ∧ sm σ σ' 36 36 60 61 := by
  have hL := hT.1
  intro r
  induction r with
  | zero =>
    intro k z x y os hz hx σ hk hk8 h hor hos
    have ho7 := hor.2.1
    refine ⟨σ, ?_, h, hor, sm.rf _ _ _ _ _⟩
    refine ex_iload_n dX9_sortsRow_2 rfl rfl ?_
    refine ex_aload_n dX9_sortsRow_3 rfl rfl ?_
    refine ex_getI (s := 44) (x := nI os.length) dX9_sortsRow_4 rfl qp_8_235 rfl rfl (hor.1) ?_
    refine ex_icmp_ge (q := 92) (q2 := 10) dX9_sortsRow_7 rfl rfl (fun _ => ?_) (fun hh => absurd (nI_le (a := os.length) (b := k) (by omega) (by omega)) hh)
    exact ex_vret dX9_sortsRow_92 rfl rfl rfl
  | succ r ih =>
    intro k z x y os hz hx σ hk hk8 h hor hos
    have ho7 := hor.2.1
    have hk1 : k + (r + 1) = os.length := by omega
    obtain ⟨σ1, x2, y2, hx2, hE, g1, g2, g3⟩ := l_pass2 hT (k := k) k x y os hx σ h hor hos (by omega)
    have hm2 := ps1_mem (ky T 2) k os (by omega)
    obtain ⟨σ2, hE2, k1, k2, k3⟩ := ih (k + 1) (some (.int (nI 0))) x2 y2 (ps1 (ky T 2) k os) rfl hx2 σ1 (Or.inl (by rw [hm2.1]; omega)) (by omega) g1 g2 (fun l hl => hos l (hm2.2 l hl))
    refine ⟨σ2, ?_, k1, k2, g3.tr k3⟩
    refine ex_iload_n dX9_sortsRow_2 rfl rfl ?_
    refine ex_aload_n dX9_sortsRow_3 rfl rfl ?_
    refine ex_getI (s := 44) (x := nI os.length) dX9_sortsRow_4 rfl qp_8_235 rfl rfl (hor.1) ?_
    refine ex_icmp_ge (q := 92) (q2 := 10) dX9_sortsRow_7 rfl rfl (fun hh => absurd hh (nI_ge (a := k) (b := os.length) (by omega) (by omega))) (fun _ => ?_)
    refine ex_iload_n dX9_sortsRow_10 rfl rfl ?_
    refine ex_istore_n (ls' := [some (.ref 55), some (.int 2), some (.int (nI k)), some (.int (nI k)), x, y]) dX9_sortsRow_11 rfl (Nat.le_of_ble_eq_true rfl) rfl rfl ?_
    refine hE _ _ ?_
    refine ex_iinc (y := nI (k + 1)) (ls' := [some (.ref 55), some (.int 2), some (.int (nI (k + 1))), some (.int (nI 0)), x2, y2]) dX9_sortsRow_86 rfl rfl rfl (nI_add k 1) rfl ?_
    refine ex_goto (q := 2) dX9_sortsRow_89 rfl ?_
    exact hE2

set_option maxRecDepth 8000 in
set_option maxHeartbeats 2000000 in
theorem k_sortsRow2 {σ : qm_St} {T : tn_T} (hT : tn_ok T) (h : MR σ T) {os : List Nat} (hor : RR σ os) (hos : ∀ l ∈ os, l < tn_L T) : ∃ σ', Ok qm_lay 5 mX9_sortsRow [.ref 55, .int 2] σ none σ' ∧ MR σ' T ∧ RR σ' (srt (ky T 2) (os.length - 1) 1 os) ∧ sm σ σ' 36 36 60 61 := by
  obtain ⟨σ', hE, g1, g2, g3⟩ := l_sort2 hT (os.length - 1) 1 none none none os rfl rfl σ (by omega) (by decide) h hor hos
  refine ⟨σ', ?_, g1, g2, g3⟩
  refine Ok.of (ls := [some (.ref 55), some (.int 2), none, none, none, none]) (Nat.le_of_ble_eq_true rfl) rfl ?_
  refine ex_iconst (x := 1) dX9_sortsRow_0 rfl rfl ?_
  refine ex_istore_n (ls' := [some (.ref 55), some (.int 2), some (.int 1), none, none, none]) dX9_sortsRow_1 rfl (Nat.le_of_ble_eq_true rfl) rfl rfl ?_
  exact hE

set_option maxRecDepth 8000 in
set_option maxHeartbeats 2000000 in
theorem j_rule {T : tn_T} {X : gx_T} {P : gt_T} {Im : gi_T} {S : gs_T} (hG : gg_ok (T, X, P, Im, S)) (s q : Int32) : J mX8_rule mX9_rule [.int s, .int q] (T, X, P, Im, S) := by
  have hT : tn_ok T := hG.1
  have hX : gx_ok X := hG.2.1
  have hP : gt_ok P := hG.2.2.1
  have hI : gi_ok T (gx_n X) Im := hG.2.2.2.1
  have hS : gs_ok S := hG.2.2.2.2.1
  have hw : tn_w T < gx_n X := hG.2.2.2.2.2
  have hL := hT.1
  have hw6 := hT.2.1
  have hu := tn_u_lt hT
  have hX6 := hX.2.1
  have hP6 := hP.1
  have hnb := tn_nb_bits hT
  have h128 : 2 ^ tn_L T ≤ 128 := Nat.pow_le_pow_right (n := 2) (by omega) hL
  have hnb7 : tn_nb T < 128 := by omega
  have ebl : bl 7 (tn_nb T) = tn_ul T := by rw [← bl_7 hL hnb.1]; exact ul_bl hT
  have hul : ∀ l ∈ tn_ul T, l < tn_L T := fun l hl => (ul_mem hl).1
  by_cases c1 : tn_in s 0 2 = true ∧ tn_in q 0 1 = true
  · obtain ⟨c1, c2⟩ := c1
    obtain ⟨s, hs, rfl⟩ := tn_in_of (n := 2) (by decide) c1
    obtain ⟨q, hq, rfl⟩ := tn_in_of (n := 1) (by decide) c2
    by_cases hs0 : s = 0
    · subst hs0
      have eos : (sel (ky T 0) 7 (tn_nb T)) = tn_ul T := (sel_0 hnb7).trans ebl
      have hosm := (sel_ok (ky T 0) 7 (tn_nb T) hnb7 (tn_pc_7 _ hnb7)).1
      obtain ⟨os, hos0⟩ : ∃ os, os = (sel (ky T 0) 7 (tn_nb T)) := ⟨_, rfl⟩
      rw [← hos0] at eos hosm
      have hos : ∀ l ∈ os, l < tn_L T := fun l hl => bit_lt hnb.1 ((hosm l).mp hl).2
      by_cases hq1 : q = 1
      · subst hq1
        refine J.u (.int (nI (dg os))) (T, X, P, Im, S) hG (fun σ hC => ?_) (fun σ hM => ?_)
        · have h : TR σ 9 18 T := hC.1
          obtain ⟨σ1, hO1, hor, hs1⟩ := c_becomesRule_0 hT h
          rw [← hos0] at hor
          have hC1 := CG.aux hG hC (hs1.wid (by omega) (by omega))
          have h1 : TR σ1 9 18 T := hC1.1
          refine ⟨σ1, ?_, hC1, hs1.wid (by omega) (by omega)⟩
          refine Ok.of (ls := [some (.ref 54), some (.int 0), some (.int 1)]) (Nat.le_of_ble_eq_true rfl) rfl ?_
          refine ex_iload_n dX8_rule_0 rfl rfl ?_
          refine ex_if_lt (q := 18) (q2 := 4) dX8_rule_1 rfl rfl (fun hh => absurd hh (by decide)) (fun _ => ?_)
          refine ex_iload_n dX8_rule_4 rfl rfl ?_
          refine ex_iconst (x := 2) dX8_rule_5 rfl rfl ?_
          refine ex_icmp_gt (q := 18) (q2 := 9) dX8_rule_6 rfl rfl (fun hh => absurd hh (by decide)) (fun _ => ?_)
          refine ex_iload_n dX8_rule_9 rfl rfl ?_
          refine ex_if_lt (q := 18) (q2 := 13) dX8_rule_10 rfl rfl (fun hh => absurd hh (by decide)) (fun _ => ?_)
          refine ex_iload_n dX8_rule_13 rfl rfl ?_
          refine ex_iconst (x := 1) dX8_rule_14 rfl rfl ?_
          refine ex_icmp_le (q := 21) (q2 := 18) dX8_rule_15 rfl rfl (fun _ => ?_) (fun hh => absurd (by decide) hh)
          refine ex_aload_n dX8_rule_21 rfl rfl ?_
          refine ex_getR (b := 48) dX8_rule_22 rfl qp_7_43 rfl rfl ?_
          refine ex_aload_n dX8_rule_25 rfl rfl ?_
          refine ex_getR (b := 22) dX8_rule_26 rfl qp_7_10 rfl rfl ?_
          refine ex_iload_n dX8_rule_29 rfl rfl ?_
          refine ex_callV (a := 48) (rest := []) dX8_rule_30 rfl qp_7_216 rfl rfl rfl rfl rfl (Nat.le_of_ble_eq_true rfl) (hO1) (Nat.le_of_ble_eq_true rfl) ?_
          show Ex qm_lay _ mX8_rule 33 [some (.ref 54), some (.int 0), some (.int 1)] [] σ1 _ _
          refine ex_iload_n dX8_rule_33 rfl rfl ?_
          refine ex_iconst (x := 1) dX8_rule_34 rfl rfl ?_
          refine ex_icmp_ne (q := 46) (q2 := 38) dX8_rule_35 rfl rfl (fun hh => absurd hh (by decide)) (fun _ => ?_)
          refine ex_aload_n dX8_rule_38 rfl rfl ?_
          refine ex_getR (b := 48) dX8_rule_39 rfl qp_7_43 rfl rfl ?_
          refine ex_callV (a := 48) (rest := []) dX8_rule_42 rfl qp_7_220 rfl rfl rfl rfl rfl (Nat.le_of_ble_eq_true rfl) (c_digits hor) (Nat.le_of_ble_eq_true rfl) ?_
          show Ex qm_lay _ mX8_rule 45 [some (.ref 54), some (.int 0), some (.int 1)] [.int (nI (dg os))] σ1 _ _
          exact ex_iret dX8_rule_45 rfl rfl rfl
        · have h : MR σ T := hM.1
          obtain ⟨σ1, hO1, hor1, hs1⟩ := k_begins hT h hnb7
          rw [ul_bl hT] at hor1
          have h1 := h.sm hs1 (by omega) (by omega)
          have hM1 := MG.aux hM (hs1.wid (i3 := 36) (i4 := 46) (j3 := 56) (j4 := 62) (by omega) (by omega))
          have hs1w : sm σ σ1 27 46 42 62 := hs1.wid (by omega) (by omega)
          have hor := hor1
          rw [← eos] at hor
          refine ⟨σ1, ?_, hM1, hs1w⟩
          refine Ok.of (ls := [some (.ref 55), some (.int 0), some (.int 1)]) (Nat.le_of_ble_eq_true rfl) rfl ?_
          refine ex_iload_n dX9_rule_0 rfl rfl ?_
          refine ex_iconst (x := 0) dX9_rule_1 rfl rfl ?_
          refine ex_iconst (x := 2) dX9_rule_2 rfl rfl ?_
          refine ex_callS (rest := []) dX9_rule_3 rfl qp_8_81 rfl rfl rfl (Nat.le_of_ble_eq_true rfl) (k_in _ _ _ _) (Nat.le_of_ble_eq_true rfl) ?_
          show Ex qm_lay _ mX9_rule 6 [some (.ref 55), some (.int 0), some (.int 1)] [.int (b2i (tn_in 0 0 2))] σ _ _
          refine ex_if_eq (q := 18) (q2 := 9) dX9_rule_6 rfl rfl (fun hh => absurd hh (b2i_n0.mpr (by decide))) (fun _ => ?_)
          refine ex_iload_n dX9_rule_9 rfl rfl ?_
          refine ex_iconst (x := 0) dX9_rule_10 rfl rfl ?_
          refine ex_iconst (x := 1) dX9_rule_11 rfl rfl ?_
          refine ex_callS (rest := []) dX9_rule_12 rfl qp_8_81 rfl rfl rfl (Nat.le_of_ble_eq_true rfl) (k_in _ _ _ _) (Nat.le_of_ble_eq_true rfl) ?_
          show Ex qm_lay _ mX9_rule 15 [some (.ref 55), some (.int 0), some (.int 1)] [.int (b2i (tn_in 1 0 1))] σ _ _
          refine ex_if_ne (q := 21) (q2 := 18) dX9_rule_15 rfl rfl (fun _ => ?_) (fun hh => absurd (b2i_n0.mpr (by decide)) hh)
          refine ex_aload_n dX9_rule_21 rfl rfl ?_
          refine ex_aload_n dX9_rule_22 rfl rfl ?_
          refine ex_callV (a := 55) (rest := [.ref 55]) dX9_rule_23 rfl qp_8_244 rfl rfl rfl rfl rfl (Nat.le_of_ble_eq_true rfl) (k_notBuilt hT h) (Nat.le_of_ble_eq_true rfl) ?_
          show Ex qm_lay _ mX9_rule 26 [some (.ref 55), some (.int 0), some (.int 1)] [.int (nI (tn_nb T)), .ref 55] σ _ _
          refine ex_callV (a := 55) (rest := []) dX9_rule_26 rfl qp_8_247 rfl rfl rfl rfl rfl (Nat.le_of_ble_eq_true rfl) (hO1) (Nat.le_of_ble_eq_true rfl) ?_
          show Ex qm_lay _ mX9_rule 29 [some (.ref 55), some (.int 0), some (.int 1)] [] σ1 _ _
          refine ex_iload_n dX9_rule_29 rfl rfl ?_
          refine ex_if_le (q := 38) (q2 := 33) dX9_rule_30 rfl rfl (fun _ => ?_) (fun hh => absurd (by decide) hh)
          refine ex_iload_n dX9_rule_38 rfl rfl ?_
          refine ex_if_ne (q := 49) (q2 := 42) dX9_rule_39 rfl rfl (fun _ => ?_) (fun hh => absurd (by decide) hh)
          refine ex_aload_n dX9_rule_49 rfl rfl ?_
          refine ex_callV (a := 55) (rest := []) dX9_rule_50 rfl qp_8_253 rfl rfl rfl rfl rfl (Nat.le_of_ble_eq_true rfl) (k_rowDigits hor) (Nat.le_of_ble_eq_true rfl) ?_
          show Ex qm_lay _ mX9_rule 53 [some (.ref 55), some (.int 0), some (.int 1)] [.int (nI (dg os))] σ1 _ _
          exact ex_iret dX9_rule_53 rfl rfl rfl
      · have hq0 : q = 0 := by omega
        subst hq0
        refine J.u (.int (nI (tn_pc (tn_cb (tn_bl T os))))) (T, X, P, Im, S) hG (fun σ hC => ?_) (fun σ hM => ?_)
        · have h : TR σ 9 18 T := hC.1
          obtain ⟨σ1, hO1, hor, hs1⟩ := c_becomesRule_0 hT h
          rw [← hos0] at hor
          have hC1 := CG.aux hG hC (hs1.wid (by omega) (by omega))
          have h1 : TR σ1 9 18 T := hC1.1
          obtain ⟨σ2, hO2, hT2, hs2⟩ := c_becomes_10 hT h1
          obtain ⟨σ3, hO3, hT3, hs3⟩ := c_buildFirst_1 hT hT2 (hor.sm hs2 (by omega) (by omega)) hos (n := os.length) (Nat.le_refl _)
          rw [List.take_length] at hT3
          have hok := tn_bl_ok os hT hos
          have hth := hs2.tr hs3
          refine ⟨σ3, ?_, CG.think hG hC1 hth, (hs1.wid (by omega) (by omega)).tr (hth.wid (by omega) (by omega))⟩
          refine Ok.of (ls := [some (.ref 54), some (.int 0), some (.int 0)]) (Nat.le_of_ble_eq_true rfl) rfl ?_
          refine ex_iload_n dX8_rule_0 rfl rfl ?_
          refine ex_if_lt (q := 18) (q2 := 4) dX8_rule_1 rfl rfl (fun hh => absurd hh (by decide)) (fun _ => ?_)
          refine ex_iload_n dX8_rule_4 rfl rfl ?_
          refine ex_iconst (x := 2) dX8_rule_5 rfl rfl ?_
          refine ex_icmp_gt (q := 18) (q2 := 9) dX8_rule_6 rfl rfl (fun hh => absurd hh (by decide)) (fun _ => ?_)
          refine ex_iload_n dX8_rule_9 rfl rfl ?_
          refine ex_if_lt (q := 18) (q2 := 13) dX8_rule_10 rfl rfl (fun hh => absurd hh (by decide)) (fun _ => ?_)
          refine ex_iload_n dX8_rule_13 rfl rfl ?_
          refine ex_iconst (x := 1) dX8_rule_14 rfl rfl ?_
          refine ex_icmp_le (q := 21) (q2 := 18) dX8_rule_15 rfl rfl (fun _ => ?_) (fun hh => absurd (by decide) hh)
          refine ex_aload_n dX8_rule_21 rfl rfl ?_
          refine ex_getR (b := 48) dX8_rule_22 rfl qp_7_43 rfl rfl ?_
          refine ex_aload_n dX8_rule_25 rfl rfl ?_
          refine ex_getR (b := 22) dX8_rule_26 rfl qp_7_10 rfl rfl ?_
          refine ex_iload_n dX8_rule_29 rfl rfl ?_
          refine ex_callV (a := 48) (rest := []) dX8_rule_30 rfl qp_7_216 rfl rfl rfl rfl rfl (Nat.le_of_ble_eq_true rfl) (hO1) (Nat.le_of_ble_eq_true rfl) ?_
          show Ex qm_lay _ mX8_rule 33 [some (.ref 54), some (.int 0), some (.int 0)] [] σ1 _ _
          refine ex_iload_n dX8_rule_33 rfl rfl ?_
          refine ex_iconst (x := 1) dX8_rule_34 rfl rfl ?_
          refine ex_icmp_ne (q := 46) (q2 := 38) dX8_rule_35 rfl rfl (fun _ => ?_) (fun hh => absurd (by decide) hh)
          refine ex_aload_n dX8_rule_46 rfl rfl ?_
          refine ex_getR (b := 28) dX8_rule_47 rfl qp_7_16 rfl rfl ?_
          refine ex_aload_n dX8_rule_50 rfl rfl ?_
          refine ex_getR (b := 22) dX8_rule_51 rfl qp_7_10 rfl rfl ?_
          refine ex_callV (a := 28) (rest := []) dX8_rule_54 rfl qp_7_172 rfl rfl rfl rfl rfl (Nat.le_of_ble_eq_true rfl) (hO2) (Nat.le_of_ble_eq_true rfl) ?_
          show Ex qm_lay _ mX8_rule 57 [some (.ref 54), some (.int 0), some (.int 0)] [] σ2 _ _
          refine ex_aload_n dX8_rule_57 rfl rfl ?_
          refine ex_getR (b := 28) dX8_rule_58 rfl qp_7_16 rfl rfl ?_
          refine ex_aload_n dX8_rule_61 rfl rfl ?_
          refine ex_getR (b := 48) dX8_rule_62 rfl qp_7_43 rfl rfl ?_
          refine ex_aload_n dX8_rule_65 rfl rfl ?_
          refine ex_getR (b := 48) dX8_rule_66 rfl qp_7_43 rfl rfl ?_
          refine ex_getI (s := 21) (x := nI os.length) dX8_rule_69 rfl qp_7_196 rfl rfl ((hor.sm hs2 (by omega) (by omega)).1) ?_
          refine ex_callV (a := 28) (rest := []) dX8_rule_72 rfl qp_7_197 rfl rfl rfl rfl rfl (Nat.le_of_ble_eq_true rfl) (hO3) (Nat.le_of_ble_eq_true rfl) ?_
          show Ex qm_lay _ mX8_rule 75 [some (.ref 54), some (.int 0), some (.int 0)] [] σ3 _ _
          refine ex_aload_n dX8_rule_75 rfl rfl ?_
          refine ex_getR (b := 28) dX8_rule_76 rfl qp_7_16 rfl rfl ?_
          refine ex_callV (a := 28) (rest := []) dX8_rule_79 rfl qp_7_68 rfl rfl rfl rfl rfl (Nat.le_of_ble_eq_true rfl) (c_howMany_1 hok hT3) (Nat.le_of_ble_eq_true rfl) ?_
          show Ex qm_lay _ mX8_rule 82 [some (.ref 54), some (.int 0), some (.int 0)] [.int (nI (tn_pc (tn_cb (tn_bl T os))))] σ3 _ _
          exact ex_iret dX8_rule_82 rfl rfl rfl
        · have h : MR σ T := hM.1
          obtain ⟨σ1, hO1, hor1, hs1⟩ := k_begins hT h hnb7
          rw [ul_bl hT] at hor1
          have h1 := h.sm hs1 (by omega) (by omega)
          have hM1 := MG.aux hM (hs1.wid (i3 := 36) (i4 := 46) (j3 := 56) (j4 := 62) (by omega) (by omega))
          have hs1w : sm σ σ1 27 46 42 62 := hs1.wid (by omega) (by omega)
          have hor := hor1
          rw [← eos] at hor
          obtain ⟨σ3, hO3, hR3, hs3⟩ := k_manyByRow hT h1 hor hos
          refine ⟨σ3, ?_, MG.thinkL (G := (T, X, P, Im, S)) hM1 hR3 ⟨fun s hs => hs3.1 s (by omega), fun r hr hr2 k => hs3.2 r (by omega) (by omega) k⟩, hs1w.tr (hs3.sm (by omega) (by omega) (by omega))⟩
          refine Ok.of (ls := [some (.ref 55), some (.int 0), some (.int 0)]) (Nat.le_of_ble_eq_true rfl) rfl ?_
          refine ex_iload_n dX9_rule_0 rfl rfl ?_
          refine ex_iconst (x := 0) dX9_rule_1 rfl rfl ?_
          refine ex_iconst (x := 2) dX9_rule_2 rfl rfl ?_
          refine ex_callS (rest := []) dX9_rule_3 rfl qp_8_81 rfl rfl rfl (Nat.le_of_ble_eq_true rfl) (k_in _ _ _ _) (Nat.le_of_ble_eq_true rfl) ?_
          show Ex qm_lay _ mX9_rule 6 [some (.ref 55), some (.int 0), some (.int 0)] [.int (b2i (tn_in 0 0 2))] σ _ _
          refine ex_if_eq (q := 18) (q2 := 9) dX9_rule_6 rfl rfl (fun hh => absurd hh (b2i_n0.mpr (by decide))) (fun _ => ?_)
          refine ex_iload_n dX9_rule_9 rfl rfl ?_
          refine ex_iconst (x := 0) dX9_rule_10 rfl rfl ?_
          refine ex_iconst (x := 1) dX9_rule_11 rfl rfl ?_
          refine ex_callS (rest := []) dX9_rule_12 rfl qp_8_81 rfl rfl rfl (Nat.le_of_ble_eq_true rfl) (k_in _ _ _ _) (Nat.le_of_ble_eq_true rfl) ?_
          show Ex qm_lay _ mX9_rule 15 [some (.ref 55), some (.int 0), some (.int 0)] [.int (b2i (tn_in 0 0 1))] σ _ _
          refine ex_if_ne (q := 21) (q2 := 18) dX9_rule_15 rfl rfl (fun _ => ?_) (fun hh => absurd (b2i_n0.mpr (by decide)) hh)
          refine ex_aload_n dX9_rule_21 rfl rfl ?_
          refine ex_aload_n dX9_rule_22 rfl rfl ?_
          refine ex_callV (a := 55) (rest := [.ref 55]) dX9_rule_23 rfl qp_8_244 rfl rfl rfl rfl rfl (Nat.le_of_ble_eq_true rfl) (k_notBuilt hT h) (Nat.le_of_ble_eq_true rfl) ?_
          show Ex qm_lay _ mX9_rule 26 [some (.ref 55), some (.int 0), some (.int 0)] [.int (nI (tn_nb T)), .ref 55] σ _ _
          refine ex_callV (a := 55) (rest := []) dX9_rule_26 rfl qp_8_247 rfl rfl rfl rfl rfl (Nat.le_of_ble_eq_true rfl) (hO1) (Nat.le_of_ble_eq_true rfl) ?_
          show Ex qm_lay _ mX9_rule 29 [some (.ref 55), some (.int 0), some (.int 0)] [] σ1 _ _
          refine ex_iload_n dX9_rule_29 rfl rfl ?_
          refine ex_if_le (q := 38) (q2 := 33) dX9_rule_30 rfl rfl (fun _ => ?_) (fun hh => absurd (by decide) hh)
          refine ex_iload_n dX9_rule_38 rfl rfl ?_
          refine ex_if_ne (q := 49) (q2 := 42) dX9_rule_39 rfl rfl (fun hh => absurd hh (by decide)) (fun _ => ?_)
          refine ex_aload_n dX9_rule_42 rfl rfl ?_
          refine ex_callV (a := 55) (rest := []) dX9_rule_43 rfl qp_8_250 rfl rfl rfl rfl rfl (Nat.le_of_ble_eq_true rfl) (hO3) (Nat.le_of_ble_eq_true rfl) ?_
          show Ex qm_lay _ mX9_rule 46 [some (.ref 55), some (.int 0), some (.int 0)] [.int (nI (tn_pc (tn_cb (tn_bl T os))))] σ3 _ _
          refine ex_goto (q := 53) dX9_rule_46 rfl ?_
          exact ex_iret dX9_rule_53 rfl rfl rfl
    by_cases hs1 : s = 1
    · subst hs1
      have eos : (sel (ky T 1) 7 (tn_nb T)) = srt (ky T 1) ((tn_ul T).length - 1) 1 (tn_ul T) := by rw [← ebl]; exact (sel_srt hnb7).symm
      have hosm := (sel_ok (ky T 1) 7 (tn_nb T) hnb7 (tn_pc_7 _ hnb7)).1
      obtain ⟨os, hos0⟩ : ∃ os, os = (sel (ky T 1) 7 (tn_nb T)) := ⟨_, rfl⟩
      rw [← hos0] at eos hosm
      have hos : ∀ l ∈ os, l < tn_L T := fun l hl => bit_lt hnb.1 ((hosm l).mp hl).2
      by_cases hq1 : q = 1
      · subst hq1
        refine J.u (.int (nI (dg os))) (T, X, P, Im, S) hG (fun σ hC => ?_) (fun σ hM => ?_)
        · have h : TR σ 9 18 T := hC.1
          obtain ⟨σ1, hO1, hor, hs1⟩ := c_becomesRule_1 hT h
          rw [← hos0] at hor
          have hC1 := CG.aux hG hC (hs1.wid (by omega) (by omega))
          have h1 : TR σ1 9 18 T := hC1.1
          refine ⟨σ1, ?_, hC1, hs1.wid (by omega) (by omega)⟩
          refine Ok.of (ls := [some (.ref 54), some (.int 1), some (.int 1)]) (Nat.le_of_ble_eq_true rfl) rfl ?_
          refine ex_iload_n dX8_rule_0 rfl rfl ?_
          refine ex_if_lt (q := 18) (q2 := 4) dX8_rule_1 rfl rfl (fun hh => absurd hh (by decide)) (fun _ => ?_)
          refine ex_iload_n dX8_rule_4 rfl rfl ?_
          refine ex_iconst (x := 2) dX8_rule_5 rfl rfl ?_
          refine ex_icmp_gt (q := 18) (q2 := 9) dX8_rule_6 rfl rfl (fun hh => absurd hh (by decide)) (fun _ => ?_)
          refine ex_iload_n dX8_rule_9 rfl rfl ?_
          refine ex_if_lt (q := 18) (q2 := 13) dX8_rule_10 rfl rfl (fun hh => absurd hh (by decide)) (fun _ => ?_)
          refine ex_iload_n dX8_rule_13 rfl rfl ?_
          refine ex_iconst (x := 1) dX8_rule_14 rfl rfl ?_
          refine ex_icmp_le (q := 21) (q2 := 18) dX8_rule_15 rfl rfl (fun _ => ?_) (fun hh => absurd (by decide) hh)
          refine ex_aload_n dX8_rule_21 rfl rfl ?_
          refine ex_getR (b := 48) dX8_rule_22 rfl qp_7_43 rfl rfl ?_
          refine ex_aload_n dX8_rule_25 rfl rfl ?_
          refine ex_getR (b := 22) dX8_rule_26 rfl qp_7_10 rfl rfl ?_
          refine ex_iload_n dX8_rule_29 rfl rfl ?_
          refine ex_callV (a := 48) (rest := []) dX8_rule_30 rfl qp_7_216 rfl rfl rfl rfl rfl (Nat.le_of_ble_eq_true rfl) (hO1) (Nat.le_of_ble_eq_true rfl) ?_
          show Ex qm_lay _ mX8_rule 33 [some (.ref 54), some (.int 1), some (.int 1)] [] σ1 _ _
          refine ex_iload_n dX8_rule_33 rfl rfl ?_
          refine ex_iconst (x := 1) dX8_rule_34 rfl rfl ?_
          refine ex_icmp_ne (q := 46) (q2 := 38) dX8_rule_35 rfl rfl (fun hh => absurd hh (by decide)) (fun _ => ?_)
          refine ex_aload_n dX8_rule_38 rfl rfl ?_
          refine ex_getR (b := 48) dX8_rule_39 rfl qp_7_43 rfl rfl ?_
          refine ex_callV (a := 48) (rest := []) dX8_rule_42 rfl qp_7_220 rfl rfl rfl rfl rfl (Nat.le_of_ble_eq_true rfl) (c_digits hor) (Nat.le_of_ble_eq_true rfl) ?_
          show Ex qm_lay _ mX8_rule 45 [some (.ref 54), some (.int 1), some (.int 1)] [.int (nI (dg os))] σ1 _ _
          exact ex_iret dX8_rule_45 rfl rfl rfl
        · have h : MR σ T := hM.1
          obtain ⟨σ1, hO1, hor1, hs1⟩ := k_begins hT h hnb7
          rw [ul_bl hT] at hor1
          have h1 := h.sm hs1 (by omega) (by omega)
          have hM1 := MG.aux hM (hs1.wid (i3 := 36) (i4 := 46) (j3 := 56) (j4 := 62) (by omega) (by omega))
          have hs1w : sm σ σ1 27 46 42 62 := hs1.wid (by omega) (by omega)
          obtain ⟨σ2, hO2, h2, hor, hs2⟩ := k_sortsRow1 hT h1 hor1 hul
          rw [← eos] at hor
          have hM2 := MG.aux hM1 (hs2.wid (i3 := 36) (i4 := 46) (j3 := 56) (j4 := 62) (by omega) (by omega))
          have hs2w : sm σ σ2 27 46 42 62 := hs1w.tr (hs2.wid (by omega) (by omega))
          refine ⟨σ2, ?_, hM2, hs2w⟩
          refine Ok.of (ls := [some (.ref 55), some (.int 1), some (.int 1)]) (Nat.le_of_ble_eq_true rfl) rfl ?_
          refine ex_iload_n dX9_rule_0 rfl rfl ?_
          refine ex_iconst (x := 0) dX9_rule_1 rfl rfl ?_
          refine ex_iconst (x := 2) dX9_rule_2 rfl rfl ?_
          refine ex_callS (rest := []) dX9_rule_3 rfl qp_8_81 rfl rfl rfl (Nat.le_of_ble_eq_true rfl) (k_in _ _ _ _) (Nat.le_of_ble_eq_true rfl) ?_
          show Ex qm_lay _ mX9_rule 6 [some (.ref 55), some (.int 1), some (.int 1)] [.int (b2i (tn_in 1 0 2))] σ _ _
          refine ex_if_eq (q := 18) (q2 := 9) dX9_rule_6 rfl rfl (fun hh => absurd hh (b2i_n0.mpr (by decide))) (fun _ => ?_)
          refine ex_iload_n dX9_rule_9 rfl rfl ?_
          refine ex_iconst (x := 0) dX9_rule_10 rfl rfl ?_
          refine ex_iconst (x := 1) dX9_rule_11 rfl rfl ?_
          refine ex_callS (rest := []) dX9_rule_12 rfl qp_8_81 rfl rfl rfl (Nat.le_of_ble_eq_true rfl) (k_in _ _ _ _) (Nat.le_of_ble_eq_true rfl) ?_
          show Ex qm_lay _ mX9_rule 15 [some (.ref 55), some (.int 1), some (.int 1)] [.int (b2i (tn_in 1 0 1))] σ _ _
          refine ex_if_ne (q := 21) (q2 := 18) dX9_rule_15 rfl rfl (fun _ => ?_) (fun hh => absurd (b2i_n0.mpr (by decide)) hh)
          refine ex_aload_n dX9_rule_21 rfl rfl ?_
          refine ex_aload_n dX9_rule_22 rfl rfl ?_
          refine ex_callV (a := 55) (rest := [.ref 55]) dX9_rule_23 rfl qp_8_244 rfl rfl rfl rfl rfl (Nat.le_of_ble_eq_true rfl) (k_notBuilt hT h) (Nat.le_of_ble_eq_true rfl) ?_
          show Ex qm_lay _ mX9_rule 26 [some (.ref 55), some (.int 1), some (.int 1)] [.int (nI (tn_nb T)), .ref 55] σ _ _
          refine ex_callV (a := 55) (rest := []) dX9_rule_26 rfl qp_8_247 rfl rfl rfl rfl rfl (Nat.le_of_ble_eq_true rfl) (hO1) (Nat.le_of_ble_eq_true rfl) ?_
          show Ex qm_lay _ mX9_rule 29 [some (.ref 55), some (.int 1), some (.int 1)] [] σ1 _ _
          refine ex_iload_n dX9_rule_29 rfl rfl ?_
          refine ex_if_le (q := 38) (q2 := 33) dX9_rule_30 rfl rfl (fun hh => absurd hh (by decide)) (fun _ => ?_)
          refine ex_aload_n dX9_rule_33 rfl rfl ?_
          refine ex_iload_n dX9_rule_34 rfl rfl ?_
          refine ex_callV (a := 55) (rest := []) dX9_rule_35 rfl qp_8_268 rfl rfl rfl rfl rfl (Nat.le_of_ble_eq_true rfl) (hO2) (Nat.le_of_ble_eq_true rfl) ?_
          show Ex qm_lay _ mX9_rule 38 [some (.ref 55), some (.int 1), some (.int 1)] [] σ2 _ _
          refine ex_iload_n dX9_rule_38 rfl rfl ?_
          refine ex_if_ne (q := 49) (q2 := 42) dX9_rule_39 rfl rfl (fun _ => ?_) (fun hh => absurd (by decide) hh)
          refine ex_aload_n dX9_rule_49 rfl rfl ?_
          refine ex_callV (a := 55) (rest := []) dX9_rule_50 rfl qp_8_253 rfl rfl rfl rfl rfl (Nat.le_of_ble_eq_true rfl) (k_rowDigits hor) (Nat.le_of_ble_eq_true rfl) ?_
          show Ex qm_lay _ mX9_rule 53 [some (.ref 55), some (.int 1), some (.int 1)] [.int (nI (dg os))] σ2 _ _
          exact ex_iret dX9_rule_53 rfl rfl rfl
      · have hq0 : q = 0 := by omega
        subst hq0
        refine J.u (.int (nI (tn_pc (tn_cb (tn_bl T os))))) (T, X, P, Im, S) hG (fun σ hC => ?_) (fun σ hM => ?_)
        · have h : TR σ 9 18 T := hC.1
          obtain ⟨σ1, hO1, hor, hs1⟩ := c_becomesRule_1 hT h
          rw [← hos0] at hor
          have hC1 := CG.aux hG hC (hs1.wid (by omega) (by omega))
          have h1 : TR σ1 9 18 T := hC1.1
          obtain ⟨σ2, hO2, hT2, hs2⟩ := c_becomes_10 hT h1
          obtain ⟨σ3, hO3, hT3, hs3⟩ := c_buildFirst_1 hT hT2 (hor.sm hs2 (by omega) (by omega)) hos (n := os.length) (Nat.le_refl _)
          rw [List.take_length] at hT3
          have hok := tn_bl_ok os hT hos
          have hth := hs2.tr hs3
          refine ⟨σ3, ?_, CG.think hG hC1 hth, (hs1.wid (by omega) (by omega)).tr (hth.wid (by omega) (by omega))⟩
          refine Ok.of (ls := [some (.ref 54), some (.int 1), some (.int 0)]) (Nat.le_of_ble_eq_true rfl) rfl ?_
          refine ex_iload_n dX8_rule_0 rfl rfl ?_
          refine ex_if_lt (q := 18) (q2 := 4) dX8_rule_1 rfl rfl (fun hh => absurd hh (by decide)) (fun _ => ?_)
          refine ex_iload_n dX8_rule_4 rfl rfl ?_
          refine ex_iconst (x := 2) dX8_rule_5 rfl rfl ?_
          refine ex_icmp_gt (q := 18) (q2 := 9) dX8_rule_6 rfl rfl (fun hh => absurd hh (by decide)) (fun _ => ?_)
          refine ex_iload_n dX8_rule_9 rfl rfl ?_
          refine ex_if_lt (q := 18) (q2 := 13) dX8_rule_10 rfl rfl (fun hh => absurd hh (by decide)) (fun _ => ?_)
          refine ex_iload_n dX8_rule_13 rfl rfl ?_
          refine ex_iconst (x := 1) dX8_rule_14 rfl rfl ?_
          refine ex_icmp_le (q := 21) (q2 := 18) dX8_rule_15 rfl rfl (fun _ => ?_) (fun hh => absurd (by decide) hh)
          refine ex_aload_n dX8_rule_21 rfl rfl ?_
          refine ex_getR (b := 48) dX8_rule_22 rfl qp_7_43 rfl rfl ?_
          refine ex_aload_n dX8_rule_25 rfl rfl ?_
          refine ex_getR (b := 22) dX8_rule_26 rfl qp_7_10 rfl rfl ?_
          refine ex_iload_n dX8_rule_29 rfl rfl ?_
          refine ex_callV (a := 48) (rest := []) dX8_rule_30 rfl qp_7_216 rfl rfl rfl rfl rfl (Nat.le_of_ble_eq_true rfl) (hO1) (Nat.le_of_ble_eq_true rfl) ?_
          show Ex qm_lay _ mX8_rule 33 [some (.ref 54), some (.int 1), some (.int 0)] [] σ1 _ _
          refine ex_iload_n dX8_rule_33 rfl rfl ?_
          refine ex_iconst (x := 1) dX8_rule_34 rfl rfl ?_
          refine ex_icmp_ne (q := 46) (q2 := 38) dX8_rule_35 rfl rfl (fun _ => ?_) (fun hh => absurd (by decide) hh)
          refine ex_aload_n dX8_rule_46 rfl rfl ?_
          refine ex_getR (b := 28) dX8_rule_47 rfl qp_7_16 rfl rfl ?_
          refine ex_aload_n dX8_rule_50 rfl rfl ?_
          refine ex_getR (b := 22) dX8_rule_51 rfl qp_7_10 rfl rfl ?_
          refine ex_callV (a := 28) (rest := []) dX8_rule_54 rfl qp_7_172 rfl rfl rfl rfl rfl (Nat.le_of_ble_eq_true rfl) (hO2) (Nat.le_of_ble_eq_true rfl) ?_
          show Ex qm_lay _ mX8_rule 57 [some (.ref 54), some (.int 1), some (.int 0)] [] σ2 _ _
          refine ex_aload_n dX8_rule_57 rfl rfl ?_
          refine ex_getR (b := 28) dX8_rule_58 rfl qp_7_16 rfl rfl ?_
          refine ex_aload_n dX8_rule_61 rfl rfl ?_
          refine ex_getR (b := 48) dX8_rule_62 rfl qp_7_43 rfl rfl ?_
          refine ex_aload_n dX8_rule_65 rfl rfl ?_
          refine ex_getR (b := 48) dX8_rule_66 rfl qp_7_43 rfl rfl ?_
          refine ex_getI (s := 21) (x := nI os.length) dX8_rule_69 rfl qp_7_196 rfl rfl ((hor.sm hs2 (by omega) (by omega)).1) ?_
          refine ex_callV (a := 28) (rest := []) dX8_rule_72 rfl qp_7_197 rfl rfl rfl rfl rfl (Nat.le_of_ble_eq_true rfl) (hO3) (Nat.le_of_ble_eq_true rfl) ?_
          show Ex qm_lay _ mX8_rule 75 [some (.ref 54), some (.int 1), some (.int 0)] [] σ3 _ _
          refine ex_aload_n dX8_rule_75 rfl rfl ?_
          refine ex_getR (b := 28) dX8_rule_76 rfl qp_7_16 rfl rfl ?_
          refine ex_callV (a := 28) (rest := []) dX8_rule_79 rfl qp_7_68 rfl rfl rfl rfl rfl (Nat.le_of_ble_eq_true rfl) (c_howMany_1 hok hT3) (Nat.le_of_ble_eq_true rfl) ?_
          show Ex qm_lay _ mX8_rule 82 [some (.ref 54), some (.int 1), some (.int 0)] [.int (nI (tn_pc (tn_cb (tn_bl T os))))] σ3 _ _
          exact ex_iret dX8_rule_82 rfl rfl rfl
        · have h : MR σ T := hM.1
          obtain ⟨σ1, hO1, hor1, hs1⟩ := k_begins hT h hnb7
          rw [ul_bl hT] at hor1
          have h1 := h.sm hs1 (by omega) (by omega)
          have hM1 := MG.aux hM (hs1.wid (i3 := 36) (i4 := 46) (j3 := 56) (j4 := 62) (by omega) (by omega))
          have hs1w : sm σ σ1 27 46 42 62 := hs1.wid (by omega) (by omega)
          obtain ⟨σ2, hO2, h2, hor, hs2⟩ := k_sortsRow1 hT h1 hor1 hul
          rw [← eos] at hor
          have hM2 := MG.aux hM1 (hs2.wid (i3 := 36) (i4 := 46) (j3 := 56) (j4 := 62) (by omega) (by omega))
          have hs2w : sm σ σ2 27 46 42 62 := hs1w.tr (hs2.wid (by omega) (by omega))
          obtain ⟨σ3, hO3, hR3, hs3⟩ := k_manyByRow hT h2 hor hos
          refine ⟨σ3, ?_, MG.thinkL (G := (T, X, P, Im, S)) hM2 hR3 ⟨fun s hs => hs3.1 s (by omega), fun r hr hr2 k => hs3.2 r (by omega) (by omega) k⟩, hs2w.tr (hs3.sm (by omega) (by omega) (by omega))⟩
          refine Ok.of (ls := [some (.ref 55), some (.int 1), some (.int 0)]) (Nat.le_of_ble_eq_true rfl) rfl ?_
          refine ex_iload_n dX9_rule_0 rfl rfl ?_
          refine ex_iconst (x := 0) dX9_rule_1 rfl rfl ?_
          refine ex_iconst (x := 2) dX9_rule_2 rfl rfl ?_
          refine ex_callS (rest := []) dX9_rule_3 rfl qp_8_81 rfl rfl rfl (Nat.le_of_ble_eq_true rfl) (k_in _ _ _ _) (Nat.le_of_ble_eq_true rfl) ?_
          show Ex qm_lay _ mX9_rule 6 [some (.ref 55), some (.int 1), some (.int 0)] [.int (b2i (tn_in 1 0 2))] σ _ _
          refine ex_if_eq (q := 18) (q2 := 9) dX9_rule_6 rfl rfl (fun hh => absurd hh (b2i_n0.mpr (by decide))) (fun _ => ?_)
          refine ex_iload_n dX9_rule_9 rfl rfl ?_
          refine ex_iconst (x := 0) dX9_rule_10 rfl rfl ?_
          refine ex_iconst (x := 1) dX9_rule_11 rfl rfl ?_
          refine ex_callS (rest := []) dX9_rule_12 rfl qp_8_81 rfl rfl rfl (Nat.le_of_ble_eq_true rfl) (k_in _ _ _ _) (Nat.le_of_ble_eq_true rfl) ?_
          show Ex qm_lay _ mX9_rule 15 [some (.ref 55), some (.int 1), some (.int 0)] [.int (b2i (tn_in 0 0 1))] σ _ _
          refine ex_if_ne (q := 21) (q2 := 18) dX9_rule_15 rfl rfl (fun _ => ?_) (fun hh => absurd (b2i_n0.mpr (by decide)) hh)
          refine ex_aload_n dX9_rule_21 rfl rfl ?_
          refine ex_aload_n dX9_rule_22 rfl rfl ?_
          refine ex_callV (a := 55) (rest := [.ref 55]) dX9_rule_23 rfl qp_8_244 rfl rfl rfl rfl rfl (Nat.le_of_ble_eq_true rfl) (k_notBuilt hT h) (Nat.le_of_ble_eq_true rfl) ?_
          show Ex qm_lay _ mX9_rule 26 [some (.ref 55), some (.int 1), some (.int 0)] [.int (nI (tn_nb T)), .ref 55] σ _ _
          refine ex_callV (a := 55) (rest := []) dX9_rule_26 rfl qp_8_247 rfl rfl rfl rfl rfl (Nat.le_of_ble_eq_true rfl) (hO1) (Nat.le_of_ble_eq_true rfl) ?_
          show Ex qm_lay _ mX9_rule 29 [some (.ref 55), some (.int 1), some (.int 0)] [] σ1 _ _
          refine ex_iload_n dX9_rule_29 rfl rfl ?_
          refine ex_if_le (q := 38) (q2 := 33) dX9_rule_30 rfl rfl (fun hh => absurd hh (by decide)) (fun _ => ?_)
          refine ex_aload_n dX9_rule_33 rfl rfl ?_
          refine ex_iload_n dX9_rule_34 rfl rfl ?_
          refine ex_callV (a := 55) (rest := []) dX9_rule_35 rfl qp_8_268 rfl rfl rfl rfl rfl (Nat.le_of_ble_eq_true rfl) (hO2) (Nat.le_of_ble_eq_true rfl) ?_
          show Ex qm_lay _ mX9_rule 38 [some (.ref 55), some (.int 1), some (.int 0)] [] σ2 _ _
          refine ex_iload_n dX9_rule_38 rfl rfl ?_
          refine ex_if_ne (q := 49) (q2 := 42) dX9_rule_39 rfl rfl (fun hh => absurd hh (by decide)) (fun _ => ?_)
          refine ex_aload_n dX9_rule_42 rfl rfl ?_
          refine ex_callV (a := 55) (rest := []) dX9_rule_43 rfl qp_8_250 rfl rfl rfl rfl rfl (Nat.le_of_ble_eq_true rfl) (hO3) (Nat.le_of_ble_eq_true rfl) ?_
          show Ex qm_lay _ mX9_rule 46 [some (.ref 55), some (.int 1), some (.int 0)] [.int (nI (tn_pc (tn_cb (tn_bl T os))))] σ3 _ _
          refine ex_goto (q := 53) dX9_rule_46 rfl ?_
          exact ex_iret dX9_rule_53 rfl rfl rfl
    have hs2 : s = 2 := by omega
    subst hs2
    have eos : (sel (ky T 2) 7 (tn_nb T)) = srt (ky T 2) ((tn_ul T).length - 1) 1 (tn_ul T) := by rw [← ebl]; exact (sel_srt hnb7).symm
    have hosm := (sel_ok (ky T 2) 7 (tn_nb T) hnb7 (tn_pc_7 _ hnb7)).1
    obtain ⟨os, hos0⟩ : ∃ os, os = (sel (ky T 2) 7 (tn_nb T)) := ⟨_, rfl⟩
    rw [← hos0] at eos hosm
    have hos : ∀ l ∈ os, l < tn_L T := fun l hl => bit_lt hnb.1 ((hosm l).mp hl).2
    by_cases hq1 : q = 1
    · subst hq1
      refine J.u (.int (nI (dg os))) (T, X, P, Im, S) hG (fun σ hC => ?_) (fun σ hM => ?_)
      · have h : TR σ 9 18 T := hC.1
        obtain ⟨σ1, hO1, hor, hs1⟩ := c_becomesRule_2 hT h
        rw [← hos0] at hor
        have hC1 := CG.aux hG hC (hs1.wid (by omega) (by omega))
        have h1 : TR σ1 9 18 T := hC1.1
        refine ⟨σ1, ?_, hC1, hs1.wid (by omega) (by omega)⟩
        refine Ok.of (ls := [some (.ref 54), some (.int 2), some (.int 1)]) (Nat.le_of_ble_eq_true rfl) rfl ?_
        refine ex_iload_n dX8_rule_0 rfl rfl ?_
        refine ex_if_lt (q := 18) (q2 := 4) dX8_rule_1 rfl rfl (fun hh => absurd hh (by decide)) (fun _ => ?_)
        refine ex_iload_n dX8_rule_4 rfl rfl ?_
        refine ex_iconst (x := 2) dX8_rule_5 rfl rfl ?_
        refine ex_icmp_gt (q := 18) (q2 := 9) dX8_rule_6 rfl rfl (fun hh => absurd hh (by decide)) (fun _ => ?_)
        refine ex_iload_n dX8_rule_9 rfl rfl ?_
        refine ex_if_lt (q := 18) (q2 := 13) dX8_rule_10 rfl rfl (fun hh => absurd hh (by decide)) (fun _ => ?_)
        refine ex_iload_n dX8_rule_13 rfl rfl ?_
        refine ex_iconst (x := 1) dX8_rule_14 rfl rfl ?_
        refine ex_icmp_le (q := 21) (q2 := 18) dX8_rule_15 rfl rfl (fun _ => ?_) (fun hh => absurd (by decide) hh)
        refine ex_aload_n dX8_rule_21 rfl rfl ?_
        refine ex_getR (b := 48) dX8_rule_22 rfl qp_7_43 rfl rfl ?_
        refine ex_aload_n dX8_rule_25 rfl rfl ?_
        refine ex_getR (b := 22) dX8_rule_26 rfl qp_7_10 rfl rfl ?_
        refine ex_iload_n dX8_rule_29 rfl rfl ?_
        refine ex_callV (a := 48) (rest := []) dX8_rule_30 rfl qp_7_216 rfl rfl rfl rfl rfl (Nat.le_of_ble_eq_true rfl) (hO1) (Nat.le_of_ble_eq_true rfl) ?_
        show Ex qm_lay _ mX8_rule 33 [some (.ref 54), some (.int 2), some (.int 1)] [] σ1 _ _
        refine ex_iload_n dX8_rule_33 rfl rfl ?_
        refine ex_iconst (x := 1) dX8_rule_34 rfl rfl ?_
        refine ex_icmp_ne (q := 46) (q2 := 38) dX8_rule_35 rfl rfl (fun hh => absurd hh (by decide)) (fun _ => ?_)
        refine ex_aload_n dX8_rule_38 rfl rfl ?_
        refine ex_getR (b := 48) dX8_rule_39 rfl qp_7_43 rfl rfl ?_
        refine ex_callV (a := 48) (rest := []) dX8_rule_42 rfl qp_7_220 rfl rfl rfl rfl rfl (Nat.le_of_ble_eq_true rfl) (c_digits hor) (Nat.le_of_ble_eq_true rfl) ?_
        show Ex qm_lay _ mX8_rule 45 [some (.ref 54), some (.int 2), some (.int 1)] [.int (nI (dg os))] σ1 _ _
        exact ex_iret dX8_rule_45 rfl rfl rfl
      · have h : MR σ T := hM.1
        obtain ⟨σ1, hO1, hor1, hs1⟩ := k_begins hT h hnb7
        rw [ul_bl hT] at hor1
        have h1 := h.sm hs1 (by omega) (by omega)
        have hM1 := MG.aux hM (hs1.wid (i3 := 36) (i4 := 46) (j3 := 56) (j4 := 62) (by omega) (by omega))
        have hs1w : sm σ σ1 27 46 42 62 := hs1.wid (by omega) (by omega)
        obtain ⟨σ2, hO2, h2, hor, hs2⟩ := k_sortsRow2 hT h1 hor1 hul
        rw [← eos] at hor
        have hM2 := MG.aux hM1 (hs2.wid (i3 := 36) (i4 := 46) (j3 := 56) (j4 := 62) (by omega) (by omega))
        have hs2w : sm σ σ2 27 46 42 62 := hs1w.tr (hs2.wid (by omega) (by omega))
        refine ⟨σ2, ?_, hM2, hs2w⟩
        refine Ok.of (ls := [some (.ref 55), some (.int 2), some (.int 1)]) (Nat.le_of_ble_eq_true rfl) rfl ?_
        refine ex_iload_n dX9_rule_0 rfl rfl ?_
        refine ex_iconst (x := 0) dX9_rule_1 rfl rfl ?_
        refine ex_iconst (x := 2) dX9_rule_2 rfl rfl ?_
        refine ex_callS (rest := []) dX9_rule_3 rfl qp_8_81 rfl rfl rfl (Nat.le_of_ble_eq_true rfl) (k_in _ _ _ _) (Nat.le_of_ble_eq_true rfl) ?_
        show Ex qm_lay _ mX9_rule 6 [some (.ref 55), some (.int 2), some (.int 1)] [.int (b2i (tn_in 2 0 2))] σ _ _
        refine ex_if_eq (q := 18) (q2 := 9) dX9_rule_6 rfl rfl (fun hh => absurd hh (b2i_n0.mpr (by decide))) (fun _ => ?_)
        refine ex_iload_n dX9_rule_9 rfl rfl ?_
        refine ex_iconst (x := 0) dX9_rule_10 rfl rfl ?_
        refine ex_iconst (x := 1) dX9_rule_11 rfl rfl ?_
        refine ex_callS (rest := []) dX9_rule_12 rfl qp_8_81 rfl rfl rfl (Nat.le_of_ble_eq_true rfl) (k_in _ _ _ _) (Nat.le_of_ble_eq_true rfl) ?_
        show Ex qm_lay _ mX9_rule 15 [some (.ref 55), some (.int 2), some (.int 1)] [.int (b2i (tn_in 1 0 1))] σ _ _
        refine ex_if_ne (q := 21) (q2 := 18) dX9_rule_15 rfl rfl (fun _ => ?_) (fun hh => absurd (b2i_n0.mpr (by decide)) hh)
        refine ex_aload_n dX9_rule_21 rfl rfl ?_
        refine ex_aload_n dX9_rule_22 rfl rfl ?_
        refine ex_callV (a := 55) (rest := [.ref 55]) dX9_rule_23 rfl qp_8_244 rfl rfl rfl rfl rfl (Nat.le_of_ble_eq_true rfl) (k_notBuilt hT h) (Nat.le_of_ble_eq_true rfl) ?_
        show Ex qm_lay _ mX9_rule 26 [some (.ref 55), some (.int 2), some (.int 1)] [.int (nI (tn_nb T)), .ref 55] σ _ _
        refine ex_callV (a := 55) (rest := []) dX9_rule_26 rfl qp_8_247 rfl rfl rfl rfl rfl (Nat.le_of_ble_eq_true rfl) (hO1) (Nat.le_of_ble_eq_true rfl) ?_
        show Ex qm_lay _ mX9_rule 29 [some (.ref 55), some (.int 2), some (.int 1)] [] σ1 _ _
        refine ex_iload_n dX9_rule_29 rfl rfl ?_
        refine ex_if_le (q := 38) (q2 := 33) dX9_rule_30 rfl rfl (fun hh => absurd hh (by decide)) (fun _ => ?_)
        refine ex_aload_n dX9_rule_33 rfl rfl ?_
        refine ex_iload_n dX9_rule_34 rfl rfl ?_
        refine ex_callV (a := 55) (rest := []) dX9_rule_35 rfl qp_8_268 rfl rfl rfl rfl rfl (Nat.le_of_ble_eq_true rfl) (hO2) (Nat.le_of_ble_eq_true rfl) ?_
        show Ex qm_lay _ mX9_rule 38 [some (.ref 55), some (.int 2), some (.int 1)] [] σ2 _ _
        refine ex_iload_n dX9_rule_38 rfl rfl ?_
        refine ex_if_ne (q := 49) (q2 := 42) dX9_rule_39 rfl rfl (fun _ => ?_) (fun hh => absurd (by decide) hh)
        refine ex_aload_n dX9_rule_49 rfl rfl ?_
        refine ex_callV (a := 55) (rest := []) dX9_rule_50 rfl qp_8_253 rfl rfl rfl rfl rfl (Nat.le_of_ble_eq_true rfl) (k_rowDigits hor) (Nat.le_of_ble_eq_true rfl) ?_
        show Ex qm_lay _ mX9_rule 53 [some (.ref 55), some (.int 2), some (.int 1)] [.int (nI (dg os))] σ2 _ _
        exact ex_iret dX9_rule_53 rfl rfl rfl
    · have hq0 : q = 0 := by omega
      subst hq0
      refine J.u (.int (nI (tn_pc (tn_cb (tn_bl T os))))) (T, X, P, Im, S) hG (fun σ hC => ?_) (fun σ hM => ?_)
      · have h : TR σ 9 18 T := hC.1
        obtain ⟨σ1, hO1, hor, hs1⟩ := c_becomesRule_2 hT h
        rw [← hos0] at hor
        have hC1 := CG.aux hG hC (hs1.wid (by omega) (by omega))
        have h1 : TR σ1 9 18 T := hC1.1
        obtain ⟨σ2, hO2, hT2, hs2⟩ := c_becomes_10 hT h1
        obtain ⟨σ3, hO3, hT3, hs3⟩ := c_buildFirst_1 hT hT2 (hor.sm hs2 (by omega) (by omega)) hos (n := os.length) (Nat.le_refl _)
        rw [List.take_length] at hT3
        have hok := tn_bl_ok os hT hos
        have hth := hs2.tr hs3
        refine ⟨σ3, ?_, CG.think hG hC1 hth, (hs1.wid (by omega) (by omega)).tr (hth.wid (by omega) (by omega))⟩
        refine Ok.of (ls := [some (.ref 54), some (.int 2), some (.int 0)]) (Nat.le_of_ble_eq_true rfl) rfl ?_
        refine ex_iload_n dX8_rule_0 rfl rfl ?_
        refine ex_if_lt (q := 18) (q2 := 4) dX8_rule_1 rfl rfl (fun hh => absurd hh (by decide)) (fun _ => ?_)
        refine ex_iload_n dX8_rule_4 rfl rfl ?_
        refine ex_iconst (x := 2) dX8_rule_5 rfl rfl ?_
        refine ex_icmp_gt (q := 18) (q2 := 9) dX8_rule_6 rfl rfl (fun hh => absurd hh (by decide)) (fun _ => ?_)
        refine ex_iload_n dX8_rule_9 rfl rfl ?_
        refine ex_if_lt (q := 18) (q2 := 13) dX8_rule_10 rfl rfl (fun hh => absurd hh (by decide)) (fun _ => ?_)
        refine ex_iload_n dX8_rule_13 rfl rfl ?_
        refine ex_iconst (x := 1) dX8_rule_14 rfl rfl ?_
        refine ex_icmp_le (q := 21) (q2 := 18) dX8_rule_15 rfl rfl (fun _ => ?_) (fun hh => absurd (by decide) hh)
        refine ex_aload_n dX8_rule_21 rfl rfl ?_
        refine ex_getR (b := 48) dX8_rule_22 rfl qp_7_43 rfl rfl ?_
        refine ex_aload_n dX8_rule_25 rfl rfl ?_
        refine ex_getR (b := 22) dX8_rule_26 rfl qp_7_10 rfl rfl ?_
        refine ex_iload_n dX8_rule_29 rfl rfl ?_
        refine ex_callV (a := 48) (rest := []) dX8_rule_30 rfl qp_7_216 rfl rfl rfl rfl rfl (Nat.le_of_ble_eq_true rfl) (hO1) (Nat.le_of_ble_eq_true rfl) ?_
        show Ex qm_lay _ mX8_rule 33 [some (.ref 54), some (.int 2), some (.int 0)] [] σ1 _ _
        refine ex_iload_n dX8_rule_33 rfl rfl ?_
        refine ex_iconst (x := 1) dX8_rule_34 rfl rfl ?_
        refine ex_icmp_ne (q := 46) (q2 := 38) dX8_rule_35 rfl rfl (fun _ => ?_) (fun hh => absurd (by decide) hh)
        refine ex_aload_n dX8_rule_46 rfl rfl ?_
        refine ex_getR (b := 28) dX8_rule_47 rfl qp_7_16 rfl rfl ?_
        refine ex_aload_n dX8_rule_50 rfl rfl ?_
        refine ex_getR (b := 22) dX8_rule_51 rfl qp_7_10 rfl rfl ?_
        refine ex_callV (a := 28) (rest := []) dX8_rule_54 rfl qp_7_172 rfl rfl rfl rfl rfl (Nat.le_of_ble_eq_true rfl) (hO2) (Nat.le_of_ble_eq_true rfl) ?_
        show Ex qm_lay _ mX8_rule 57 [some (.ref 54), some (.int 2), some (.int 0)] [] σ2 _ _
        refine ex_aload_n dX8_rule_57 rfl rfl ?_
        refine ex_getR (b := 28) dX8_rule_58 rfl qp_7_16 rfl rfl ?_
        refine ex_aload_n dX8_rule_61 rfl rfl ?_
        refine ex_getR (b := 48) dX8_rule_62 rfl qp_7_43 rfl rfl ?_
        refine ex_aload_n dX8_rule_65 rfl rfl ?_
        refine ex_getR (b := 48) dX8_rule_66 rfl qp_7_43 rfl rfl ?_
        refine ex_getI (s := 21) (x := nI os.length) dX8_rule_69 rfl qp_7_196 rfl rfl ((hor.sm hs2 (by omega) (by omega)).1) ?_
        refine ex_callV (a := 28) (rest := []) dX8_rule_72 rfl qp_7_197 rfl rfl rfl rfl rfl (Nat.le_of_ble_eq_true rfl) (hO3) (Nat.le_of_ble_eq_true rfl) ?_
        show Ex qm_lay _ mX8_rule 75 [some (.ref 54), some (.int 2), some (.int 0)] [] σ3 _ _
        refine ex_aload_n dX8_rule_75 rfl rfl ?_
        refine ex_getR (b := 28) dX8_rule_76 rfl qp_7_16 rfl rfl ?_
        refine ex_callV (a := 28) (rest := []) dX8_rule_79 rfl qp_7_68 rfl rfl rfl rfl rfl (Nat.le_of_ble_eq_true rfl) (c_howMany_1 hok hT3) (Nat.le_of_ble_eq_true rfl) ?_
        show Ex qm_lay _ mX8_rule 82 [some (.ref 54), some (.int 2), some (.int 0)] [.int (nI (tn_pc (tn_cb (tn_bl T os))))] σ3 _ _
        exact ex_iret dX8_rule_82 rfl rfl rfl
      · have h : MR σ T := hM.1
        obtain ⟨σ1, hO1, hor1, hs1⟩ := k_begins hT h hnb7
        rw [ul_bl hT] at hor1
        have h1 := h.sm hs1 (by omega) (by omega)
        have hM1 := MG.aux hM (hs1.wid (i3 := 36) (i4 := 46) (j3 := 56) (j4 := 62) (by omega) (by omega))
        have hs1w : sm σ σ1 27 46 42 62 := hs1.wid (by omega) (by omega)
        obtain ⟨σ2, hO2, h2, hor, hs2⟩ := k_sortsRow2 hT h1 hor1 hul
        rw [← eos] at hor
        have hM2 := MG.aux hM1 (hs2.wid (i3 := 36) (i4 := 46) (j3 := 56) (j4 := 62) (by omega) (by omega))
        have hs2w : sm σ σ2 27 46 42 62 := hs1w.tr (hs2.wid (by omega) (by omega))
        obtain ⟨σ3, hO3, hR3, hs3⟩ := k_manyByRow hT h2 hor hos
        refine ⟨σ3, ?_, MG.thinkL (G := (T, X, P, Im, S)) hM2 hR3 ⟨fun s hs => hs3.1 s (by omega), fun r hr hr2 k => hs3.2 r (by omega) (by omega) k⟩, hs2w.tr (hs3.sm (by omega) (by omega) (by omega))⟩
        refine Ok.of (ls := [some (.ref 55), some (.int 2), some (.int 0)]) (Nat.le_of_ble_eq_true rfl) rfl ?_
        refine ex_iload_n dX9_rule_0 rfl rfl ?_
        refine ex_iconst (x := 0) dX9_rule_1 rfl rfl ?_
        refine ex_iconst (x := 2) dX9_rule_2 rfl rfl ?_
        refine ex_callS (rest := []) dX9_rule_3 rfl qp_8_81 rfl rfl rfl (Nat.le_of_ble_eq_true rfl) (k_in _ _ _ _) (Nat.le_of_ble_eq_true rfl) ?_
        show Ex qm_lay _ mX9_rule 6 [some (.ref 55), some (.int 2), some (.int 0)] [.int (b2i (tn_in 2 0 2))] σ _ _
        refine ex_if_eq (q := 18) (q2 := 9) dX9_rule_6 rfl rfl (fun hh => absurd hh (b2i_n0.mpr (by decide))) (fun _ => ?_)
        refine ex_iload_n dX9_rule_9 rfl rfl ?_
        refine ex_iconst (x := 0) dX9_rule_10 rfl rfl ?_
        refine ex_iconst (x := 1) dX9_rule_11 rfl rfl ?_
        refine ex_callS (rest := []) dX9_rule_12 rfl qp_8_81 rfl rfl rfl (Nat.le_of_ble_eq_true rfl) (k_in _ _ _ _) (Nat.le_of_ble_eq_true rfl) ?_
        show Ex qm_lay _ mX9_rule 15 [some (.ref 55), some (.int 2), some (.int 0)] [.int (b2i (tn_in 0 0 1))] σ _ _
        refine ex_if_ne (q := 21) (q2 := 18) dX9_rule_15 rfl rfl (fun _ => ?_) (fun hh => absurd (b2i_n0.mpr (by decide)) hh)
        refine ex_aload_n dX9_rule_21 rfl rfl ?_
        refine ex_aload_n dX9_rule_22 rfl rfl ?_
        refine ex_callV (a := 55) (rest := [.ref 55]) dX9_rule_23 rfl qp_8_244 rfl rfl rfl rfl rfl (Nat.le_of_ble_eq_true rfl) (k_notBuilt hT h) (Nat.le_of_ble_eq_true rfl) ?_
        show Ex qm_lay _ mX9_rule 26 [some (.ref 55), some (.int 2), some (.int 0)] [.int (nI (tn_nb T)), .ref 55] σ _ _
        refine ex_callV (a := 55) (rest := []) dX9_rule_26 rfl qp_8_247 rfl rfl rfl rfl rfl (Nat.le_of_ble_eq_true rfl) (hO1) (Nat.le_of_ble_eq_true rfl) ?_
        show Ex qm_lay _ mX9_rule 29 [some (.ref 55), some (.int 2), some (.int 0)] [] σ1 _ _
        refine ex_iload_n dX9_rule_29 rfl rfl ?_
        refine ex_if_le (q := 38) (q2 := 33) dX9_rule_30 rfl rfl (fun hh => absurd hh (by decide)) (fun _ => ?_)
        refine ex_aload_n dX9_rule_33 rfl rfl ?_
        refine ex_iload_n dX9_rule_34 rfl rfl ?_
        refine ex_callV (a := 55) (rest := []) dX9_rule_35 rfl qp_8_268 rfl rfl rfl rfl rfl (Nat.le_of_ble_eq_true rfl) (hO2) (Nat.le_of_ble_eq_true rfl) ?_
        show Ex qm_lay _ mX9_rule 38 [some (.ref 55), some (.int 2), some (.int 0)] [] σ2 _ _
        refine ex_iload_n dX9_rule_38 rfl rfl ?_
        refine ex_if_ne (q := 49) (q2 := 42) dX9_rule_39 rfl rfl (fun hh => absurd hh (by decide)) (fun _ => ?_)
        refine ex_aload_n dX9_rule_42 rfl rfl ?_
        refine ex_callV (a := 55) (rest := []) dX9_rule_43 rfl qp_8_250 rfl rfl rfl rfl rfl (Nat.le_of_ble_eq_true rfl) (hO3) (Nat.le_of_ble_eq_true rfl) ?_
        show Ex qm_lay _ mX9_rule 46 [some (.ref 55), some (.int 2), some (.int 0)] [.int (nI (tn_pc (tn_cb (tn_bl T os))))] σ3 _ _
        refine ex_goto (q := 53) dX9_rule_46 rfl ?_
        exact ex_iret dX9_rule_53 rfl rfl rfl
  · refine J.q hG (.int (-2)) (fun σ hC => ?_) (fun σ hM => ?_)
    · have h : TR σ 9 18 T := hC.1
      refine Ok.of (ls := [some (.ref 54), some (.int s), some (.int q)]) (Nat.le_of_ble_eq_true rfl) rfl ?_
      refine ex_iload_n dX8_rule_0 rfl rfl ?_
      refine ex_if_lt (q := 18) (q2 := 4) dX8_rule_1 rfl rfl (fun h1 => ?_) (fun h1 => ?_)
      · refine ex_bipush (x := (-2)) dX8_rule_18 rfl rfl ?_
        exact ex_iret dX8_rule_20 rfl rfl rfl
      · refine ex_iload_n dX8_rule_4 rfl rfl ?_
        refine ex_iconst (x := 2) dX8_rule_5 rfl rfl ?_
        refine ex_icmp_gt (q := 18) (q2 := 9) dX8_rule_6 rfl rfl (fun h6 => ?_) (fun h6 => ?_)
        · refine ex_bipush (x := (-2)) dX8_rule_18 rfl rfl ?_
          exact ex_iret dX8_rule_20 rfl rfl rfl
        · refine ex_iload_n dX8_rule_9 rfl rfl ?_
          refine ex_if_lt (q := 18) (q2 := 13) dX8_rule_10 rfl rfl (fun h10 => ?_) (fun h10 => ?_)
          · refine ex_bipush (x := (-2)) dX8_rule_18 rfl rfl ?_
            exact ex_iret dX8_rule_20 rfl rfl rfl
          · refine ex_iload_n dX8_rule_13 rfl rfl ?_
            refine ex_iconst (x := 1) dX8_rule_14 rfl rfl ?_
            refine ex_icmp_le (q := 21) (q2 := 18) dX8_rule_15 rfl rfl (fun h15 => ?_) (fun h15 => ?_)
            · exact absurd ⟨decide_eq_true ⟨Int32.not_lt.mp h1, Int32.not_lt.mp h6⟩, decide_eq_true ⟨Int32.not_lt.mp h10, h15⟩⟩ c1
            · refine ex_bipush (x := (-2)) dX8_rule_18 rfl rfl ?_
              exact ex_iret dX8_rule_20 rfl rfl rfl
    · have h : MR σ T := hM.1
      refine Ok.of (ls := [some (.ref 55), some (.int s), some (.int q)]) (Nat.le_of_ble_eq_true rfl) rfl ?_
      refine ex_iload_n dX9_rule_0 rfl rfl ?_
      refine ex_iconst (x := 0) dX9_rule_1 rfl rfl ?_
      refine ex_iconst (x := 2) dX9_rule_2 rfl rfl ?_
      refine ex_callS (rest := []) dX9_rule_3 rfl qp_8_81 rfl rfl rfl (Nat.le_of_ble_eq_true rfl) (k_in _ _ _ _) (Nat.le_of_ble_eq_true rfl) ?_
      show Ex qm_lay _ mX9_rule 6 [some (.ref 55), some (.int s), some (.int q)] [.int (b2i (tn_in s 0 2))] σ _ _
      refine ex_if_eq (q := 18) (q2 := 9) dX9_rule_6 rfl rfl (fun h6 => ?_) (fun h6 => ?_)
      · have hb6 : (tn_in s 0 2) = false := b2i_0.mp h6
        refine ex_bipush (x := (-2)) dX9_rule_18 rfl rfl ?_
        exact ex_iret dX9_rule_20 rfl rfl rfl
      · have hb6 : (tn_in s 0 2) = true := b2i_n0.mp h6
        refine ex_iload_n dX9_rule_9 rfl rfl ?_
        refine ex_iconst (x := 0) dX9_rule_10 rfl rfl ?_
        refine ex_iconst (x := 1) dX9_rule_11 rfl rfl ?_
        refine ex_callS (rest := []) dX9_rule_12 rfl qp_8_81 rfl rfl rfl (Nat.le_of_ble_eq_true rfl) (k_in _ _ _ _) (Nat.le_of_ble_eq_true rfl) ?_
        show Ex qm_lay _ mX9_rule 15 [some (.ref 55), some (.int s), some (.int q)] [.int (b2i (tn_in q 0 1))] σ _ _
        refine ex_if_ne (q := 21) (q2 := 18) dX9_rule_15 rfl rfl (fun h15 => ?_) (fun h15 => ?_)
        · have hb15 : (tn_in q 0 1) = true := b2i_n0.mp h15
          exact absurd ⟨hb6, hb15⟩ c1
        · have hb15 : (tn_in q 0 1) = false := b2i_0.mp (Decidable.not_not.mp h15)
          refine ex_bipush (x := (-2)) dX9_rule_18 rfl rfl ?_
          exact ex_iret dX9_rule_20 rfl rfl rfl

theorem bl_takeL {T : tn_T} {os : List Nat} (n : Nat) : tn_L (tn_bl T (os.take n)) = tn_L T := tn_bl_L _ T
set_option maxRecDepth 8000 in
set_option maxHeartbeats 2000000 in
theorem c_worthInOrder {T : tn_T} {X : gx_T} {P : gt_T} {Im : gi_T} {S : gs_T} (hG : gg_ok (T, X, P, Im, S)) {σ : qm_St} (hC : CG σ (T, X, P, Im, S)) {os : List Nat} (hor : OR σ os) (hos : ∀ l ∈ os, l < tn_L T) {l : Nat} (hl : l ∈ os) : ∃ σ', Ok qm_lay 14 mX8_worthInOrder [.ref 54, .int (nI l)] σ (some (.int (wo T X l os))) σ' ∧ CG σ' (T, X, P, Im, S) ∧ OR σ' os ∧ sm σ σ' 0 27 0 42 := by
  have hT : tn_ok T := hG.1
  have hX : gx_ok X := hG.2.1
  have hP : gt_ok P := hG.2.2.1
  have hI : gi_ok T (gx_n X) Im := hG.2.2.2.1
  have hS : gs_ok S := hG.2.2.2.2.1
  have hw : tn_w T < gx_n X := hG.2.2.2.2.2
  have hL := hT.1
  have hw6 := hT.2.1
  have hu := tn_u_lt hT
  have hX6 := hX.2.1
  have hP6 := hP.1
  have h : TR σ 9 18 T := hC.1
  have hos7 : ∀ l ∈ os, l < 7 := fun l hl => Nat.lt_of_lt_of_le (hos l hl) hL
  obtain ⟨a1, a2⟩ := pl_ok hl
  obtain ⟨n, hn⟩ : ∃ n, n = pl os l := ⟨_, rfl⟩
  have hP1 := c_placeOf hor hos7 hl
  rw [← hn] at a1 hP1
  obtain ⟨σ1, hO1, hT1, hs1⟩ := c_becomes_10 hT h
  have hC1 := CG.think hG hC hs1
  have hor1 := hor.sm hs1 (by omega) (by omega)
  obtain ⟨σ2, hO2, hT2, hs2⟩ := c_buildFirst_1 hT hT1 hor1 hos (n := n) (by omega)
  have hC2 := CG.think hG hC1 hs2
  have hok := tn_bl_ok (os.take n) hT (os_take_ok hos)
  obtain ⟨q1, q2, q3, q4, q5⟩ := tn_bl_same (os.take n) T
  have hl2 : l < tn_L (tn_bl T (os.take n)) := by rw [q1]; exact hos l hl
  obtain ⟨σ3, hO3, hs3⟩ := c_says_1 hok hX (by rw [q2]; exact hw) hT2 hC2.2.1 (part := 0) (by decide) hl2 (nI (tn_wd (tn_bl T (os.take n)) l)) (nI n)
  rw [sx_says_bl q1 q2 q3 q4] at hO3
  refine ⟨σ3, ?_, CG.says hX hC2 hs3, (hor1.sm hs2 (by omega) (by omega)).sm hs3 (by omega) (by omega), (hs1.wid (by omega) (by omega)).tr ((hs2.wid (by omega) (by omega)).tr (hs3.wid (by omega) (by omega)))⟩
  rw [show wo T X l os = sx_says T X 0 l (nI (tn_wd (tn_bl T (os.take n)) l)) (nI n) by rw [wo, ← hn]]
  refine Ok.of (ls := [some (.ref 54), some (.int (nI l)), none]) (Nat.le_of_ble_eq_true rfl) rfl ?_
  refine ex_aload_n dX8_worthInOrder_0 rfl rfl ?_
  refine ex_getR (b := 48) dX8_worthInOrder_1 rfl qp_7_43 rfl rfl ?_
  refine ex_iload_n dX8_worthInOrder_4 rfl rfl ?_
  refine ex_callV (a := 48) (rest := []) dX8_worthInOrder_5 rfl qp_7_230 rfl rfl rfl rfl rfl (Nat.le_of_ble_eq_true rfl) (hP1) (Nat.le_of_ble_eq_true rfl) ?_
  show Ex qm_lay _ mX8_worthInOrder 8 [some (.ref 54), some (.int (nI l)), none] [.int (nI n)] σ _ _
  refine ex_istore_n (ls' := [some (.ref 54), some (.int (nI l)), some (.int (nI n))]) dX8_worthInOrder_8 rfl (Nat.le_of_ble_eq_true rfl) rfl rfl ?_
  refine ex_aload_n dX8_worthInOrder_9 rfl rfl ?_
  refine ex_getR (b := 28) dX8_worthInOrder_10 rfl qp_7_16 rfl rfl ?_
  refine ex_aload_n dX8_worthInOrder_13 rfl rfl ?_
  refine ex_getR (b := 22) dX8_worthInOrder_14 rfl qp_7_10 rfl rfl ?_
  refine ex_callV (a := 28) (rest := []) dX8_worthInOrder_17 rfl qp_7_172 rfl rfl rfl rfl rfl (Nat.le_of_ble_eq_true rfl) (hO1) (Nat.le_of_ble_eq_true rfl) ?_
  show Ex qm_lay _ mX8_worthInOrder 20 [some (.ref 54), some (.int (nI l)), some (.int (nI n))] [] σ1 _ _
  refine ex_aload_n dX8_worthInOrder_20 rfl rfl ?_
  refine ex_getR (b := 28) dX8_worthInOrder_21 rfl qp_7_16 rfl rfl ?_
  refine ex_aload_n dX8_worthInOrder_24 rfl rfl ?_
  refine ex_getR (b := 48) dX8_worthInOrder_25 rfl qp_7_43 rfl rfl ?_
  refine ex_iload_n dX8_worthInOrder_28 rfl rfl ?_
  refine ex_callV (a := 28) (rest := []) dX8_worthInOrder_29 rfl qp_7_197 rfl rfl rfl rfl rfl (Nat.le_of_ble_eq_true rfl) (hO2) (Nat.le_of_ble_eq_true rfl) ?_
  show Ex qm_lay _ mX8_worthInOrder 32 [some (.ref 54), some (.int (nI l)), some (.int (nI n))] [] σ2 _ _
  refine ex_aload_n dX8_worthInOrder_32 rfl rfl ?_
  refine ex_getR (b := 4) dX8_worthInOrder_33 rfl qp_7_29 rfl rfl ?_
  refine ex_iconst (x := 0) dX8_worthInOrder_36 rfl rfl ?_
  refine ex_aload_n dX8_worthInOrder_37 rfl rfl ?_
  refine ex_getR (b := 28) dX8_worthInOrder_38 rfl qp_7_16 rfl rfl ?_
  refine ex_iload_n dX8_worthInOrder_41 rfl rfl ?_
  refine ex_aload_n dX8_worthInOrder_42 rfl rfl ?_
  refine ex_getR (b := 28) dX8_worthInOrder_43 rfl qp_7_16 rfl rfl ?_
  refine ex_iload_n dX8_worthInOrder_46 rfl rfl ?_
  refine ex_callV (a := 28) (rest := [.int (nI l), .ref 28, .int 0, .ref 4]) dX8_worthInOrder_47 rfl qp_7_136 rfl rfl rfl rfl rfl (Nat.le_of_ble_eq_true rfl) (c_wouldTake_1 hok hT2 hl2) (Nat.le_of_ble_eq_true rfl) ?_
  show Ex qm_lay _ mX8_worthInOrder 50 [some (.ref 54), some (.int (nI l)), some (.int (nI n))] [.int (nI (tn_wd (tn_bl T (os.take n)) l)), .int (nI l), .ref 28, .int 0, .ref 4] σ2 _ _
  refine ex_iload_n dX8_worthInOrder_50 rfl rfl ?_
  refine ex_callV (a := 4) (rest := []) dX8_worthInOrder_51 rfl qp_7_101 rfl rfl rfl rfl rfl (Nat.le_of_ble_eq_true rfl) (hO3) (Nat.le_of_ble_eq_true rfl) ?_
  show Ex qm_lay _ mX8_worthInOrder 54 [some (.ref 54), some (.int (nI l)), some (.int (nI n))] [.int (sx_says T X 0 l (nI (tn_wd (tn_bl T (os.take n)) l)) (nI n))] σ3 _ _
  exact ex_iret dX8_worthInOrder_54 rfl rfl rfl

set_option maxRecDepth 8000 in
set_option maxHeartbeats 2000000 in
theorem k_worthInRow {σ : qm_St} {T : tn_T} {X : gx_T} (hX : gx_ok X) (hT : tn_ok T) (hw : tn_w T < gx_n X) (h : MR σ T) (hXM : XM σ X) {os : List Nat} (hor : RR σ os) (hos : ∀ l ∈ os, l < tn_L T) {l : Nat} (hl : l ∈ os) : ∃ σ', Ok qm_lay 12 mX9_worthInRow [.ref 55, .int (nI l)] σ (some (.int (wo T X l os))) σ' ∧ MR σ' T ∧ sl σ σ' 43 44 44 47 57 60 := by
  have hL := hT.1
  have hos7 : ∀ l ∈ os, l < 7 := fun l hl => Nat.lt_of_lt_of_le (hos l hl) hL
  obtain ⟨a1, a2⟩ := pl_ok hl
  obtain ⟨n, hn⟩ : ∃ n, n = pl os l := ⟨_, rfl⟩
  have hP1 := k_placeOf hor hos7 hl
  rw [← hn] at a1 hP1
  obtain ⟨σ1, hO1, hK1, hs1⟩ := k_keeps hT h
  obtain ⟨σ2, hO2, hR2, hs2⟩ := k_buildsRow hT (h.sm hs1 (by omega) (by omega)) (hor.sm hs1 (by omega) (by omega)) hos (n := n) (by omega)
  have hok2 := tn_bl_ok (os.take (n)) hT (os_take_ok hos)
  obtain ⟨q1, q2, q3, q4, q5⟩ := tn_bl_same (os.take (n)) T
  obtain ⟨σ3, hO3, hR3, hs3⟩ := k_laysBack hT (hK1.sm hs2 (by omega) (by omega)) (MS.ext hR2.1 q1.symm q2.symm q5.symm q4.symm)
  have hsl := back_sl2 h hR3 hs1 hs2 hs3
  have hl1 := hos l hl
  have hl2 : l < tn_L (tn_bl T (os.take n)) := by rw [q1]; exact hl1
  have hXM3 := XMsl hXM hsl (by omega)
  obtain ⟨σ4, hOa, hs4⟩ := k_asksOf hT hX hw hR3 hXM3 (part := 0) (by decide) hl1 (nI (tn_wd (tn_bl T (os.take n)) l)) (nI n)
  refine ⟨σ4, ?_, hR3.sm hs4 (by omega) (by omega), ⟨fun s hs => by rw [hs4.1 s (by omega), hsl.1 s hs], fun r hr hr2 k => by rw [hs4.2 r (by omega), hsl.2 r (by omega) (by omega)]⟩⟩
  rw [show wo T X l os = sx_says T X 0 l (nI (tn_wd (tn_bl T (os.take n)) l)) (nI n) by rw [wo, ← hn]]
  refine Ok.of (ls := [some (.ref 55), some (.int (nI l)), none, none]) (Nat.le_of_ble_eq_true rfl) rfl ?_
  refine ex_aload_n dX9_worthInRow_0 rfl rfl ?_
  refine ex_iload_n dX9_worthInRow_1 rfl rfl ?_
  refine ex_callV (a := 55) (rest := []) dX9_worthInRow_2 rfl qp_8_271 rfl rfl rfl rfl rfl (Nat.le_of_ble_eq_true rfl) (hP1) (Nat.le_of_ble_eq_true rfl) ?_
  show Ex qm_lay _ mX9_worthInRow 5 [some (.ref 55), some (.int (nI l)), none, none] [.int (nI n)] σ _ _
  refine ex_istore_n (ls' := [some (.ref 55), some (.int (nI l)), some (.int (nI n)), none]) dX9_worthInRow_5 rfl (Nat.le_of_ble_eq_true rfl) rfl rfl ?_
  refine ex_aload_n dX9_worthInRow_6 rfl rfl ?_
  refine ex_callV (a := 55) (rest := []) dX9_worthInRow_7 rfl qp_8_226 rfl rfl rfl rfl rfl (Nat.le_of_ble_eq_true rfl) (hO1) (Nat.le_of_ble_eq_true rfl) ?_
  show Ex qm_lay _ mX9_worthInRow 10 [some (.ref 55), some (.int (nI l)), some (.int (nI n)), none] [] σ1 _ _
  refine ex_aload_n dX9_worthInRow_10 rfl rfl ?_
  refine ex_iload_n dX9_worthInRow_11 rfl rfl ?_
  refine ex_callV (a := 55) (rest := []) dX9_worthInRow_12 rfl qp_8_241 rfl rfl rfl rfl rfl (Nat.le_of_ble_eq_true rfl) (hO2) (Nat.le_of_ble_eq_true rfl) ?_
  show Ex qm_lay _ mX9_worthInRow 15 [some (.ref 55), some (.int (nI l)), some (.int (nI n)), none] [] σ2 _ _
  refine ex_aload_n dX9_worthInRow_15 rfl rfl ?_
  refine ex_iload_n dX9_worthInRow_16 rfl rfl ?_
  refine ex_callV (a := 55) (rest := []) dX9_worthInRow_17 rfl qp_8_202 rfl rfl rfl rfl rfl (Nat.le_of_ble_eq_true rfl) (k_wouldTake hok2 hR2 hl2) (Nat.le_of_ble_eq_true rfl) ?_
  show Ex qm_lay _ mX9_worthInRow 20 [some (.ref 55), some (.int (nI l)), some (.int (nI n)), none] [.int (nI (tn_wd (tn_bl T (os.take n)) l))] σ2 _ _
  refine ex_istore_n (ls' := [some (.ref 55), some (.int (nI l)), some (.int (nI n)), some (.int (nI (tn_wd (tn_bl T (os.take n)) l)))]) dX9_worthInRow_20 rfl (Nat.le_of_ble_eq_true rfl) rfl rfl ?_
  refine ex_aload_n dX9_worthInRow_21 rfl rfl ?_
  refine ex_callV (a := 55) (rest := []) dX9_worthInRow_22 rfl qp_8_229 rfl rfl rfl rfl rfl (Nat.le_of_ble_eq_true rfl) (hO3) (Nat.le_of_ble_eq_true rfl) ?_
  show Ex qm_lay _ mX9_worthInRow 25 [some (.ref 55), some (.int (nI l)), some (.int (nI n)), some (.int (nI (tn_wd (tn_bl T (os.take n)) l)))] [] σ3 _ _
  refine ex_aload_n dX9_worthInRow_25 rfl rfl ?_
  refine ex_iconst (x := 0) dX9_worthInRow_26 rfl rfl ?_
  refine ex_iload_n dX9_worthInRow_27 rfl rfl ?_
  refine ex_iload_n dX9_worthInRow_28 rfl rfl ?_
  refine ex_iload_n dX9_worthInRow_29 rfl rfl ?_
  refine ex_callV (a := 55) (rest := []) dX9_worthInRow_30 rfl qp_8_179 rfl rfl rfl rfl rfl (Nat.le_of_ble_eq_true rfl) (hOa) (Nat.le_of_ble_eq_true rfl) ?_
  show Ex qm_lay _ mX9_worthInRow 33 [some (.ref 55), some (.int (nI l)), some (.int (nI n)), some (.int (nI (tn_wd (tn_bl T (os.take n)) l)))] [.int (sx_says T X 0 l (nI (tn_wd (tn_bl T (os.take n)) l)) (nI n))] σ4 _ _
  exact ex_iret dX9_worthInRow_33 rfl rfl rfl

set_option maxRecDepth 8000 in
set_option maxHeartbeats 2000000 in
theorem j_ahead {T : tn_T} {X : gx_T} {P : gt_T} {Im : gi_T} {S : gs_T} (hG : gg_ok (T, X, P, Im, S)) (x y : Int32) : J mX8_ahead mX9_ahead [.int x, .int y] (T, X, P, Im, S) := by
  have hT : tn_ok T := hG.1
  have hX : gx_ok X := hG.2.1
  have hP : gt_ok P := hG.2.2.1
  have hI : gi_ok T (gx_n X) Im := hG.2.2.2.1
  have hS : gs_ok S := hG.2.2.2.2.1
  have hw : tn_w T < gx_n X := hG.2.2.2.2.2
  have hL := hT.1
  have hw6 := hT.2.1
  have hu := tn_u_lt hT
  have hX6 := hX.2.1
  have hP6 := hP.1
  have hnb := tn_nb_bits hT
  have h128 : 2 ^ tn_L T ≤ 128 := Nat.pow_le_pow_right (n := 2) (by omega) hL
  have hnb7 : tn_nb T < 128 := by omega
  have ebl : bl 7 (tn_nb T) = tn_ul T := by rw [← bl_7 hL hnb.1]; exact ul_bl hT
  have hul : ∀ l ∈ tn_ul T, l < tn_L T := fun l hl => (ul_mem hl).1
  by_cases c1 : tn_two T x y = true
  · obtain ⟨a, b, ha, hb, hab, rfl, rfl⟩ := tn_two_of hT c1
    by_cases c2 : (tn_u T).testBit a = true
    · refine J.q hG (.int (-100000)) (fun σ hC => ?_) (fun σ hM => ?_)
      · have h : TR σ 9 18 T := hC.1
        refine Ok.of (ls := [some (.ref 54), some (.int (nI a)), some (.int (nI b)), none]) (Nat.le_of_ble_eq_true rfl) rfl ?_
        refine ex_aload_n dX8_ahead_0 rfl rfl ?_
        refine ex_getR (b := 22) dX8_ahead_1 rfl qp_7_10 rfl rfl ?_
        refine ex_iload_n dX8_ahead_4 rfl rfl ?_
        refine ex_iload_n dX8_ahead_5 rfl rfl ?_
        refine ex_callV (a := 22) (rest := []) dX8_ahead_6 rfl qp_7_159 rfl rfl rfl rfl rfl (Nat.le_of_ble_eq_true rfl) (c_hasTwoLots_0 hT h (nI a) (nI b)) (Nat.le_of_ble_eq_true rfl) ?_
        show Ex qm_lay _ mX8_ahead 9 [some (.ref 54), some (.int (nI a)), some (.int (nI b)), none] [.int (b2i (tn_two T (nI a) (nI b)))] σ _ _
        refine ex_if_eq (q := 34) (q2 := 12) dX8_ahead_9 rfl rfl (fun hh => absurd hh (b2i_n0.mpr (c1))) (fun _ => ?_)
        refine ex_aload_n dX8_ahead_12 rfl rfl ?_
        refine ex_getR (b := 22) dX8_ahead_13 rfl qp_7_10 rfl rfl ?_
        refine ex_iload_n dX8_ahead_16 rfl rfl ?_
        refine ex_callV (a := 22) (rest := []) dX8_ahead_17 rfl qp_7_127 rfl rfl rfl rfl rfl (Nat.le_of_ble_eq_true rfl) (c_isBuilt_0n hT h (by omega)) (Nat.le_of_ble_eq_true rfl) ?_
        show Ex qm_lay _ mX8_ahead 20 [some (.ref 54), some (.int (nI a)), some (.int (nI b)), none] [.int (b2i (Nat.testBit (tn_u T) a))] σ _ _
        refine ex_if_ne (q := 34) (q2 := 23) dX8_ahead_20 rfl rfl (fun _ => ?_) (fun hh => absurd (b2i_n0.mpr (c2)) hh)
        refine ex_ldc (x := (-100000)) dX8_ahead_34 rfl qp_7_223 ?_
        exact ex_iret dX8_ahead_36 rfl rfl rfl
      · have h : MR σ T := hM.1
        refine Ok.of (ls := [some (.ref 55), some (.int (nI a)), some (.int (nI b)), none]) (Nat.le_of_ble_eq_true rfl) rfl ?_
        refine ex_aload_n dX9_ahead_0 rfl rfl ?_
        refine ex_iload_n dX9_ahead_1 rfl rfl ?_
        refine ex_iload_n dX9_ahead_2 rfl rfl ?_
        refine ex_callV (a := 55) (rest := []) dX9_ahead_3 rfl qp_8_220 rfl rfl rfl rfl rfl (Nat.le_of_ble_eq_true rfl) (k_areTwo hT h (nI a) (nI b)) (Nat.le_of_ble_eq_true rfl) ?_
        show Ex qm_lay _ mX9_ahead 6 [some (.ref 55), some (.int (nI a)), some (.int (nI b)), none] [.int (b2i (tn_two T (nI a) (nI b)))] σ _ _
        refine ex_if_eq (q := 25) (q2 := 9) dX9_ahead_6 rfl rfl (fun hh => absurd hh (b2i_n0.mpr (c1))) (fun _ => ?_)
        refine ex_aload_n dX9_ahead_9 rfl rfl ?_
        refine ex_iload_n dX9_ahead_10 rfl rfl ?_
        refine ex_callV (a := 55) (rest := []) dX9_ahead_11 rfl qp_8_89 rfl rfl rfl rfl rfl (Nat.le_of_ble_eq_true rfl) (k_isBuilt hT h (by omega)) (Nat.le_of_ble_eq_true rfl) ?_
        show Ex qm_lay _ mX9_ahead 14 [some (.ref 55), some (.int (nI a)), some (.int (nI b)), none] [.int (b2i (Nat.testBit (tn_u T) a))] σ _ _
        refine ex_if_ne (q := 25) (q2 := 17) dX9_ahead_14 rfl rfl (fun _ => ?_) (fun hh => absurd (b2i_n0.mpr (c2)) hh)
        refine ex_ldc_w (x := (-100000)) dX9_ahead_25 rfl qp_8_274 ?_
        exact ex_iret dX9_ahead_28 rfl rfl rfl
    · by_cases c3 : (tn_u T).testBit b = true
      · refine J.q hG (.int (-100000)) (fun σ hC => ?_) (fun σ hM => ?_)
        · have h : TR σ 9 18 T := hC.1
          refine Ok.of (ls := [some (.ref 54), some (.int (nI a)), some (.int (nI b)), none]) (Nat.le_of_ble_eq_true rfl) rfl ?_
          refine ex_aload_n dX8_ahead_0 rfl rfl ?_
          refine ex_getR (b := 22) dX8_ahead_1 rfl qp_7_10 rfl rfl ?_
          refine ex_iload_n dX8_ahead_4 rfl rfl ?_
          refine ex_iload_n dX8_ahead_5 rfl rfl ?_
          refine ex_callV (a := 22) (rest := []) dX8_ahead_6 rfl qp_7_159 rfl rfl rfl rfl rfl (Nat.le_of_ble_eq_true rfl) (c_hasTwoLots_0 hT h (nI a) (nI b)) (Nat.le_of_ble_eq_true rfl) ?_
          show Ex qm_lay _ mX8_ahead 9 [some (.ref 54), some (.int (nI a)), some (.int (nI b)), none] [.int (b2i (tn_two T (nI a) (nI b)))] σ _ _
          refine ex_if_eq (q := 34) (q2 := 12) dX8_ahead_9 rfl rfl (fun hh => absurd hh (b2i_n0.mpr (c1))) (fun _ => ?_)
          refine ex_aload_n dX8_ahead_12 rfl rfl ?_
          refine ex_getR (b := 22) dX8_ahead_13 rfl qp_7_10 rfl rfl ?_
          refine ex_iload_n dX8_ahead_16 rfl rfl ?_
          refine ex_callV (a := 22) (rest := []) dX8_ahead_17 rfl qp_7_127 rfl rfl rfl rfl rfl (Nat.le_of_ble_eq_true rfl) (c_isBuilt_0n hT h (by omega)) (Nat.le_of_ble_eq_true rfl) ?_
          show Ex qm_lay _ mX8_ahead 20 [some (.ref 54), some (.int (nI a)), some (.int (nI b)), none] [.int (b2i (Nat.testBit (tn_u T) a))] σ _ _
          refine ex_if_ne (q := 34) (q2 := 23) dX8_ahead_20 rfl rfl (fun hh => absurd hh (fun zz => zz (b2i_0.mpr (by simpa using c2)))) (fun _ => ?_)
          refine ex_aload_n dX8_ahead_23 rfl rfl ?_
          refine ex_getR (b := 22) dX8_ahead_24 rfl qp_7_10 rfl rfl ?_
          refine ex_iload_n dX8_ahead_27 rfl rfl ?_
          refine ex_callV (a := 22) (rest := []) dX8_ahead_28 rfl qp_7_127 rfl rfl rfl rfl rfl (Nat.le_of_ble_eq_true rfl) (c_isBuilt_0n hT h (by omega)) (Nat.le_of_ble_eq_true rfl) ?_
          show Ex qm_lay _ mX8_ahead 31 [some (.ref 54), some (.int (nI a)), some (.int (nI b)), none] [.int (b2i (Nat.testBit (tn_u T) b))] σ _ _
          refine ex_if_eq (q := 37) (q2 := 34) dX8_ahead_31 rfl rfl (fun hh => absurd hh (b2i_n0.mpr (c3))) (fun _ => ?_)
          refine ex_ldc (x := (-100000)) dX8_ahead_34 rfl qp_7_223 ?_
          exact ex_iret dX8_ahead_36 rfl rfl rfl
        · have h : MR σ T := hM.1
          refine Ok.of (ls := [some (.ref 55), some (.int (nI a)), some (.int (nI b)), none]) (Nat.le_of_ble_eq_true rfl) rfl ?_
          refine ex_aload_n dX9_ahead_0 rfl rfl ?_
          refine ex_iload_n dX9_ahead_1 rfl rfl ?_
          refine ex_iload_n dX9_ahead_2 rfl rfl ?_
          refine ex_callV (a := 55) (rest := []) dX9_ahead_3 rfl qp_8_220 rfl rfl rfl rfl rfl (Nat.le_of_ble_eq_true rfl) (k_areTwo hT h (nI a) (nI b)) (Nat.le_of_ble_eq_true rfl) ?_
          show Ex qm_lay _ mX9_ahead 6 [some (.ref 55), some (.int (nI a)), some (.int (nI b)), none] [.int (b2i (tn_two T (nI a) (nI b)))] σ _ _
          refine ex_if_eq (q := 25) (q2 := 9) dX9_ahead_6 rfl rfl (fun hh => absurd hh (b2i_n0.mpr (c1))) (fun _ => ?_)
          refine ex_aload_n dX9_ahead_9 rfl rfl ?_
          refine ex_iload_n dX9_ahead_10 rfl rfl ?_
          refine ex_callV (a := 55) (rest := []) dX9_ahead_11 rfl qp_8_89 rfl rfl rfl rfl rfl (Nat.le_of_ble_eq_true rfl) (k_isBuilt hT h (by omega)) (Nat.le_of_ble_eq_true rfl) ?_
          show Ex qm_lay _ mX9_ahead 14 [some (.ref 55), some (.int (nI a)), some (.int (nI b)), none] [.int (b2i (Nat.testBit (tn_u T) a))] σ _ _
          refine ex_if_ne (q := 25) (q2 := 17) dX9_ahead_14 rfl rfl (fun hh => absurd hh (fun zz => zz (b2i_0.mpr (by simpa using c2)))) (fun _ => ?_)
          refine ex_aload_n dX9_ahead_17 rfl rfl ?_
          refine ex_iload_n dX9_ahead_18 rfl rfl ?_
          refine ex_callV (a := 55) (rest := []) dX9_ahead_19 rfl qp_8_89 rfl rfl rfl rfl rfl (Nat.le_of_ble_eq_true rfl) (k_isBuilt hT h (by omega)) (Nat.le_of_ble_eq_true rfl) ?_
          show Ex qm_lay _ mX9_ahead 22 [some (.ref 55), some (.int (nI a)), some (.int (nI b)), none] [.int (b2i (Nat.testBit (tn_u T) b))] σ _ _
          refine ex_if_eq (q := 29) (q2 := 25) dX9_ahead_22 rfl rfl (fun hh => absurd hh (b2i_n0.mpr (c3))) (fun _ => ?_)
          refine ex_ldc_w (x := (-100000)) dX9_ahead_25 rfl qp_8_274 ?_
          exact ex_iret dX9_ahead_28 rfl rfl rfl
      · have hma : a ∈ tn_ul T := List.mem_filter.mpr ⟨List.mem_range.mpr ha, by unfold tn_un; rw [show (tn_u T).testBit a = false by simpa using c2]; rfl⟩
        have hmb : b ∈ tn_ul T := List.mem_filter.mpr ⟨List.mem_range.mpr hb, by unfold tn_un; rw [show (tn_u T).testBit b = false by simpa using c3]; rfl⟩
        have hul7 : ∀ l ∈ tn_ul T, l < 7 := fun l hl => Nat.lt_of_lt_of_le (hul l hl) hL
        have pa := (pl_ok hma).1
        have pb := (pl_ok hmb).1
        obtain ⟨O2, hO2d⟩ : ∃ O2, O2 = sw (tn_ul T) (pl (tn_ul T) a) (pl (tn_ul T) b) := ⟨_, rfl⟩
        have hO2 : ∀ l ∈ O2, l < tn_L T := by rw [hO2d]; exact sw_mem pa pb hul
        have hma2 : a ∈ O2 := by rw [hO2d]; exact (sw_memi pa pb a).mpr hma
        refine J.u (.int (wo T X a O2 - wo T X a (tn_ul T))) (T, X, P, Im, S) hG (fun σ hC => ?_) (fun σ hM => ?_)
        · have h : TR σ 9 18 T := hC.1
          obtain ⟨σ1, hOa, hor, hs1⟩ := c_becomesRule_0 hT h
          rw [show sel (ky T 0) 7 (tn_nb T) = tn_ul T from (sel_0 hnb7).trans ebl] at hor
          have hC1 := CG.aux hG hC (hs1.wid (by omega) (by omega))
          obtain ⟨σ2, hOb, hC2, hor2, hs2⟩ := c_worthInOrder hG hC1 hor hul hma
          obtain ⟨σ3, hOc, hor3, hs3⟩ := c_swap hor2 hul7 hma hmb
          rw [← hO2d] at hor3
          have hC3 := CG.aux hG hC2 (hs3.wid (by omega) (by omega))
          obtain ⟨σ4, hOd, hC4, hor4, hs4⟩ := c_worthInOrder hG hC3 hor3 hO2 hma2
          refine ⟨σ4, ?_, hC4, (hs1.wid (by omega) (by omega)).tr (hs2.tr ((hs3.wid (by omega) (by omega)).tr hs4))⟩
          refine Ok.of (ls := [some (.ref 54), some (.int (nI a)), some (.int (nI b)), none]) (Nat.le_of_ble_eq_true rfl) rfl ?_
          refine ex_aload_n dX8_ahead_0 rfl rfl ?_
          refine ex_getR (b := 22) dX8_ahead_1 rfl qp_7_10 rfl rfl ?_
          refine ex_iload_n dX8_ahead_4 rfl rfl ?_
          refine ex_iload_n dX8_ahead_5 rfl rfl ?_
          refine ex_callV (a := 22) (rest := []) dX8_ahead_6 rfl qp_7_159 rfl rfl rfl rfl rfl (Nat.le_of_ble_eq_true rfl) (c_hasTwoLots_0 hT h (nI a) (nI b)) (Nat.le_of_ble_eq_true rfl) ?_
          show Ex qm_lay _ mX8_ahead 9 [some (.ref 54), some (.int (nI a)), some (.int (nI b)), none] [.int (b2i (tn_two T (nI a) (nI b)))] σ _ _
          refine ex_if_eq (q := 34) (q2 := 12) dX8_ahead_9 rfl rfl (fun hh => absurd hh (b2i_n0.mpr (c1))) (fun _ => ?_)
          refine ex_aload_n dX8_ahead_12 rfl rfl ?_
          refine ex_getR (b := 22) dX8_ahead_13 rfl qp_7_10 rfl rfl ?_
          refine ex_iload_n dX8_ahead_16 rfl rfl ?_
          refine ex_callV (a := 22) (rest := []) dX8_ahead_17 rfl qp_7_127 rfl rfl rfl rfl rfl (Nat.le_of_ble_eq_true rfl) (c_isBuilt_0n hT h (by omega)) (Nat.le_of_ble_eq_true rfl) ?_
          show Ex qm_lay _ mX8_ahead 20 [some (.ref 54), some (.int (nI a)), some (.int (nI b)), none] [.int (b2i (Nat.testBit (tn_u T) a))] σ _ _
          refine ex_if_ne (q := 34) (q2 := 23) dX8_ahead_20 rfl rfl (fun hh => absurd hh (fun zz => zz (b2i_0.mpr (by simpa using c2)))) (fun _ => ?_)
          refine ex_aload_n dX8_ahead_23 rfl rfl ?_
          refine ex_getR (b := 22) dX8_ahead_24 rfl qp_7_10 rfl rfl ?_
          refine ex_iload_n dX8_ahead_27 rfl rfl ?_
          refine ex_callV (a := 22) (rest := []) dX8_ahead_28 rfl qp_7_127 rfl rfl rfl rfl rfl (Nat.le_of_ble_eq_true rfl) (c_isBuilt_0n hT h (by omega)) (Nat.le_of_ble_eq_true rfl) ?_
          show Ex qm_lay _ mX8_ahead 31 [some (.ref 54), some (.int (nI a)), some (.int (nI b)), none] [.int (b2i (Nat.testBit (tn_u T) b))] σ _ _
          refine ex_if_eq (q := 37) (q2 := 34) dX8_ahead_31 rfl rfl (fun _ => ?_) (fun hh => absurd (b2i_0.mpr (by simpa using c3)) hh)
          refine ex_aload_n dX8_ahead_37 rfl rfl ?_
          refine ex_getR (b := 48) dX8_ahead_38 rfl qp_7_43 rfl rfl ?_
          refine ex_aload_n dX8_ahead_41 rfl rfl ?_
          refine ex_getR (b := 22) dX8_ahead_42 rfl qp_7_10 rfl rfl ?_
          refine ex_iconst (x := 0) dX8_ahead_45 rfl rfl ?_
          refine ex_callV (a := 48) (rest := []) dX8_ahead_46 rfl qp_7_216 rfl rfl rfl rfl rfl (Nat.le_of_ble_eq_true rfl) (hOa) (Nat.le_of_ble_eq_true rfl) ?_
          show Ex qm_lay _ mX8_ahead 49 [some (.ref 54), some (.int (nI a)), some (.int (nI b)), none] [] σ1 _ _
          refine ex_aload_n dX8_ahead_49 rfl rfl ?_
          refine ex_iload_n dX8_ahead_50 rfl rfl ?_
          refine ex_callV (a := 54) (rest := []) dX8_ahead_51 rfl qp_7_224 rfl rfl rfl rfl rfl (Nat.le_of_ble_eq_true rfl) (hOb) (Nat.le_of_ble_eq_true rfl) ?_
          show Ex qm_lay _ mX8_ahead 54 [some (.ref 54), some (.int (nI a)), some (.int (nI b)), none] [.int (wo T X a (tn_ul T))] σ2 _ _
          refine ex_istore_n (ls' := [some (.ref 54), some (.int (nI a)), some (.int (nI b)), some (.int (wo T X a (tn_ul T)))]) dX8_ahead_54 rfl (Nat.le_of_ble_eq_true rfl) rfl rfl ?_
          refine ex_aload_n dX8_ahead_55 rfl rfl ?_
          refine ex_getR (b := 48) dX8_ahead_56 rfl qp_7_43 rfl rfl ?_
          refine ex_iload_n dX8_ahead_59 rfl rfl ?_
          refine ex_iload_n dX8_ahead_60 rfl rfl ?_
          refine ex_callV (a := 48) (rest := []) dX8_ahead_61 rfl qp_7_227 rfl rfl rfl rfl rfl (Nat.le_of_ble_eq_true rfl) (hOc) (Nat.le_of_ble_eq_true rfl) ?_
          show Ex qm_lay _ mX8_ahead 64 [some (.ref 54), some (.int (nI a)), some (.int (nI b)), some (.int (wo T X a (tn_ul T)))] [] σ3 _ _
          refine ex_aload_n dX8_ahead_64 rfl rfl ?_
          refine ex_iload_n dX8_ahead_65 rfl rfl ?_
          refine ex_callV (a := 54) (rest := []) dX8_ahead_66 rfl qp_7_224 rfl rfl rfl rfl rfl (Nat.le_of_ble_eq_true rfl) (hOd) (Nat.le_of_ble_eq_true rfl) ?_
          show Ex qm_lay _ mX8_ahead 69 [some (.ref 54), some (.int (nI a)), some (.int (nI b)), some (.int (wo T X a (tn_ul T)))] [.int (wo T X a O2)] σ4 _ _
          refine ex_iload_n dX8_ahead_69 rfl rfl ?_
          refine ex_isub (z := wo T X a O2 - wo T X a (tn_ul T)) dX8_ahead_70 rfl (rfl) ?_
          exact ex_iret dX8_ahead_71 rfl rfl rfl
        · have h : MR σ T := hM.1
          obtain ⟨σ1, hOa, hor, hs1⟩ := k_begins hT h hnb7
          rw [ul_bl hT] at hor
          have h1 := h.sm hs1 (by omega) (by omega)
          have hM1 := MG.aux hM (hs1.wid (i3 := 36) (i4 := 46) (j3 := 56) (j4 := 62) (by omega) (by omega))
          obtain ⟨σ2, hOb, hR2, hs2⟩ := k_worthInRow hX hT hw h1 hM1.2.1 hor hul hma
          have hM2 := MG.thinkL (G := (T, X, P, Im, S)) hM1 hR2 ⟨fun s hs => hs2.1 s (by omega), fun r hr hr2 k => hs2.2 r (by omega) (by omega) k⟩
          have hor2 := RRsl2 hor hs2
          obtain ⟨σ3, hOc, hor3, hs3⟩ := k_swapsRow hor2 pa pb
          rw [← hO2d] at hor3
          have hM3 := MG.aux hM2 (hs3.wid (i3 := 36) (i4 := 46) (j3 := 56) (j4 := 62) (by omega) (by omega))
          obtain ⟨σ4, hOd, hR4, hs4⟩ := k_worthInRow hX hT hw hM3.1 hM3.2.1 hor3 hO2 hma2
          refine ⟨σ4, ?_, MG.thinkL (G := (T, X, P, Im, S)) hM3 hR4 ⟨fun s hs => hs4.1 s (by omega), fun r hr hr2 k => hs4.2 r (by omega) (by omega) k⟩, (hs1.wid (by omega) (by omega)).tr ((hs2.sm (by omega) (by omega) (by omega)).tr ((hs3.wid (by omega) (by omega)).tr (hs4.sm (by omega) (by omega) (by omega))))⟩
          refine Ok.of (ls := [some (.ref 55), some (.int (nI a)), some (.int (nI b)), none]) (Nat.le_of_ble_eq_true rfl) rfl ?_
          refine ex_aload_n dX9_ahead_0 rfl rfl ?_
          refine ex_iload_n dX9_ahead_1 rfl rfl ?_
          refine ex_iload_n dX9_ahead_2 rfl rfl ?_
          refine ex_callV (a := 55) (rest := []) dX9_ahead_3 rfl qp_8_220 rfl rfl rfl rfl rfl (Nat.le_of_ble_eq_true rfl) (k_areTwo hT h (nI a) (nI b)) (Nat.le_of_ble_eq_true rfl) ?_
          show Ex qm_lay _ mX9_ahead 6 [some (.ref 55), some (.int (nI a)), some (.int (nI b)), none] [.int (b2i (tn_two T (nI a) (nI b)))] σ _ _
          refine ex_if_eq (q := 25) (q2 := 9) dX9_ahead_6 rfl rfl (fun hh => absurd hh (b2i_n0.mpr (c1))) (fun _ => ?_)
          refine ex_aload_n dX9_ahead_9 rfl rfl ?_
          refine ex_iload_n dX9_ahead_10 rfl rfl ?_
          refine ex_callV (a := 55) (rest := []) dX9_ahead_11 rfl qp_8_89 rfl rfl rfl rfl rfl (Nat.le_of_ble_eq_true rfl) (k_isBuilt hT h (by omega)) (Nat.le_of_ble_eq_true rfl) ?_
          show Ex qm_lay _ mX9_ahead 14 [some (.ref 55), some (.int (nI a)), some (.int (nI b)), none] [.int (b2i (Nat.testBit (tn_u T) a))] σ _ _
          refine ex_if_ne (q := 25) (q2 := 17) dX9_ahead_14 rfl rfl (fun hh => absurd hh (fun zz => zz (b2i_0.mpr (by simpa using c2)))) (fun _ => ?_)
          refine ex_aload_n dX9_ahead_17 rfl rfl ?_
          refine ex_iload_n dX9_ahead_18 rfl rfl ?_
          refine ex_callV (a := 55) (rest := []) dX9_ahead_19 rfl qp_8_89 rfl rfl rfl rfl rfl (Nat.le_of_ble_eq_true rfl) (k_isBuilt hT h (by omega)) (Nat.le_of_ble_eq_true rfl) ?_
          show Ex qm_lay _ mX9_ahead 22 [some (.ref 55), some (.int (nI a)), some (.int (nI b)), none] [.int (b2i (Nat.testBit (tn_u T) b))] σ _ _
          refine ex_if_eq (q := 29) (q2 := 25) dX9_ahead_22 rfl rfl (fun _ => ?_) (fun hh => absurd (b2i_0.mpr (by simpa using c3)) hh)
          refine ex_aload_n dX9_ahead_29 rfl rfl ?_
          refine ex_aload_n dX9_ahead_30 rfl rfl ?_
          refine ex_callV (a := 55) (rest := [.ref 55]) dX9_ahead_31 rfl qp_8_244 rfl rfl rfl rfl rfl (Nat.le_of_ble_eq_true rfl) (k_notBuilt hT h) (Nat.le_of_ble_eq_true rfl) ?_
          show Ex qm_lay _ mX9_ahead 34 [some (.ref 55), some (.int (nI a)), some (.int (nI b)), none] [.int (nI (tn_nb T)), .ref 55] σ _ _
          refine ex_callV (a := 55) (rest := []) dX9_ahead_34 rfl qp_8_247 rfl rfl rfl rfl rfl (Nat.le_of_ble_eq_true rfl) (hOa) (Nat.le_of_ble_eq_true rfl) ?_
          show Ex qm_lay _ mX9_ahead 37 [some (.ref 55), some (.int (nI a)), some (.int (nI b)), none] [] σ1 _ _
          refine ex_aload_n dX9_ahead_37 rfl rfl ?_
          refine ex_iload_n dX9_ahead_38 rfl rfl ?_
          refine ex_callV (a := 55) (rest := []) dX9_ahead_39 rfl qp_8_275 rfl rfl rfl rfl rfl (Nat.le_of_ble_eq_true rfl) (hOb) (Nat.le_of_ble_eq_true rfl) ?_
          show Ex qm_lay _ mX9_ahead 42 [some (.ref 55), some (.int (nI a)), some (.int (nI b)), none] [.int (wo T X a (tn_ul T))] σ2 _ _
          refine ex_istore_n (ls' := [some (.ref 55), some (.int (nI a)), some (.int (nI b)), some (.int (wo T X a (tn_ul T)))]) dX9_ahead_42 rfl (Nat.le_of_ble_eq_true rfl) rfl rfl ?_
          refine ex_aload_n dX9_ahead_43 rfl rfl ?_
          refine ex_aload_n dX9_ahead_44 rfl rfl ?_
          refine ex_iload_n dX9_ahead_45 rfl rfl ?_
          refine ex_callV (a := 55) (rest := [.ref 55]) dX9_ahead_46 rfl qp_8_271 rfl rfl rfl rfl rfl (Nat.le_of_ble_eq_true rfl) (k_placeOf hor2 hul7 hma) (Nat.le_of_ble_eq_true rfl) ?_
          show Ex qm_lay _ mX9_ahead 49 [some (.ref 55), some (.int (nI a)), some (.int (nI b)), some (.int (wo T X a (tn_ul T)))] [.int (nI (pl (tn_ul T) a)), .ref 55] σ2 _ _
          refine ex_aload_n dX9_ahead_49 rfl rfl ?_
          refine ex_iload_n dX9_ahead_50 rfl rfl ?_
          refine ex_callV (a := 55) (rest := [.int (nI (pl (tn_ul T) a)), .ref 55]) dX9_ahead_51 rfl qp_8_271 rfl rfl rfl rfl rfl (Nat.le_of_ble_eq_true rfl) (k_placeOf hor2 hul7 hmb) (Nat.le_of_ble_eq_true rfl) ?_
          show Ex qm_lay _ mX9_ahead 54 [some (.ref 55), some (.int (nI a)), some (.int (nI b)), some (.int (wo T X a (tn_ul T)))] [.int (nI (pl (tn_ul T) b)), .int (nI (pl (tn_ul T) a)), .ref 55] σ2 _ _
          refine ex_callV (a := 55) (rest := []) dX9_ahead_54 rfl qp_8_238 rfl rfl rfl rfl rfl (Nat.le_of_ble_eq_true rfl) (hOc) (Nat.le_of_ble_eq_true rfl) ?_
          show Ex qm_lay _ mX9_ahead 57 [some (.ref 55), some (.int (nI a)), some (.int (nI b)), some (.int (wo T X a (tn_ul T)))] [] σ3 _ _
          refine ex_aload_n dX9_ahead_57 rfl rfl ?_
          refine ex_iload_n dX9_ahead_58 rfl rfl ?_
          refine ex_callV (a := 55) (rest := []) dX9_ahead_59 rfl qp_8_275 rfl rfl rfl rfl rfl (Nat.le_of_ble_eq_true rfl) (hOd) (Nat.le_of_ble_eq_true rfl) ?_
          show Ex qm_lay _ mX9_ahead 62 [some (.ref 55), some (.int (nI a)), some (.int (nI b)), some (.int (wo T X a (tn_ul T)))] [.int (wo T X a O2)] σ4 _ _
          refine ex_iload_n dX9_ahead_62 rfl rfl ?_
          refine ex_isub (z := wo T X a O2 - wo T X a (tn_ul T)) dX9_ahead_63 rfl (rfl) ?_
          exact ex_iret dX9_ahead_64 rfl rfl rfl
  · refine J.q hG (.int (-100000)) (fun σ hC => ?_) (fun σ hM => ?_)
    · have h : TR σ 9 18 T := hC.1
      refine Ok.of (ls := [some (.ref 54), some (.int x), some (.int y), none]) (Nat.le_of_ble_eq_true rfl) rfl ?_
      refine ex_aload_n dX8_ahead_0 rfl rfl ?_
      refine ex_getR (b := 22) dX8_ahead_1 rfl qp_7_10 rfl rfl ?_
      refine ex_iload_n dX8_ahead_4 rfl rfl ?_
      refine ex_iload_n dX8_ahead_5 rfl rfl ?_
      refine ex_callV (a := 22) (rest := []) dX8_ahead_6 rfl qp_7_159 rfl rfl rfl rfl rfl (Nat.le_of_ble_eq_true rfl) (c_hasTwoLots_0 hT h x y) (Nat.le_of_ble_eq_true rfl) ?_
      show Ex qm_lay _ mX8_ahead 9 [some (.ref 54), some (.int x), some (.int y), none] [.int (b2i (tn_two T x y))] σ _ _
      refine ex_if_eq (q := 34) (q2 := 12) dX8_ahead_9 rfl rfl (fun _ => ?_) (fun hh => absurd (b2i_0.mpr (by simpa using c1)) hh)
      refine ex_ldc (x := (-100000)) dX8_ahead_34 rfl qp_7_223 ?_
      exact ex_iret dX8_ahead_36 rfl rfl rfl
    · have h : MR σ T := hM.1
      refine Ok.of (ls := [some (.ref 55), some (.int x), some (.int y), none]) (Nat.le_of_ble_eq_true rfl) rfl ?_
      refine ex_aload_n dX9_ahead_0 rfl rfl ?_
      refine ex_iload_n dX9_ahead_1 rfl rfl ?_
      refine ex_iload_n dX9_ahead_2 rfl rfl ?_
      refine ex_callV (a := 55) (rest := []) dX9_ahead_3 rfl qp_8_220 rfl rfl rfl rfl rfl (Nat.le_of_ble_eq_true rfl) (k_areTwo hT h x y) (Nat.le_of_ble_eq_true rfl) ?_
      show Ex qm_lay _ mX9_ahead 6 [some (.ref 55), some (.int x), some (.int y), none] [.int (b2i (tn_two T x y))] σ _ _
      refine ex_if_eq (q := 25) (q2 := 9) dX9_ahead_6 rfl rfl (fun _ => ?_) (fun hh => absurd (b2i_0.mpr (by simpa using c1)) hh)
      refine ex_ldc_w (x := (-100000)) dX9_ahead_25 rfl qp_8_274 ?_
      exact ex_iret dX9_ahead_28 rfl rfl rfl

