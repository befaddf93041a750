/-! ===== all that both sides keep, as one value ===== -/
/-- texts: how many, where a part's steps begin, the steps -/
abbrev gx_T : Type := Nat × (Nat → Nat → Nat) × (Nat → Nat → Nat)
def gx_n (X : gx_T) : Nat := X.1
def gx_s (X : gx_T) : Nat → Nat → Nat := X.2.1
def gx_c (X : gx_T) : Nat → Nat → Nat := X.2.2
/-- a step as the other side writes it -/
def gx_m (c : Nat) : Nat :=
  if c < 10000 then 100000 + c else if c < 20000 then c - 10000
  else if c = 20007 then 11 else if c = 20008 then 12 else if c = 20009 then 13 else if c = 20060 then 14 else if c = 20061 then 15
  else if c = 20043 then 16 else if c = 20045 then 17 else if c = 20042 then 18 else 19
/-- how high the stack stands behind steps; none: too low, too high, or no step -/
def gx_h (c : Nat) (h : Nat) : Option Nat :=
  if c < 10000 then (if h < 60 then some (h + 1) else none) else if c < 10006 then (if h < 60 then some (h + 1) else none)
  else if c = 20009 ∨ c = 20010 then (if 1 ≤ h then some h else none)
  else if c = 20007 ∨ c = 20008 ∨ c = 20060 ∨ c = 20061 ∨ c = 20043 ∨ c = 20045 ∨ c = 20042 then (if 2 ≤ h then some (h - 1) else none) else none
def gx_hs (f : Nat → Nat) (a : Nat) : Nat → Option Nat
  | 0 => some 0
  | n + 1 => (gx_hs f a n).bind (gx_h (f (a + n)))
def gx_ok (X : gx_T) : Prop := 1 ≤ gx_n X ∧ gx_n X ≤ 6 ∧ ∀ t, t < gx_n X → gx_s X t 0 = 0 ∧ gx_s X t 3 ≤ 160 ∧ ∀ p, p < 3 → gx_s X t p ≤ gx_s X t (p + 1) ∧ gx_hs (gx_c X t) (gx_s X t p) (gx_s X t (p + 1) - gx_s X t p) = some 1
def XC (σ : qm_St) (X : gx_T) : Prop := qm_rI σ 7 = nI (gx_n X) ∧ ∀ t, t < gx_n X → (∀ p, p < 4 → qm_rF σ (12 + t) p = nI (gx_s X t p)) ∧ ∀ k, k < gx_s X t 3 → qm_rF σ (6 + t) k = nI (gx_c X t k)
def XM (σ : qm_St) (X : gx_T) : Prop := qm_rI σ 30 = nI (gx_n X) ∧ ∀ t, t < gx_n X → (∀ p, p < 4 → qm_rF σ 49 (4 * t + p) = nI (gx_s X t p)) ∧ ∀ k, k < gx_s X t 3 → qm_rF σ 48 (200 * t + k) = nI (gx_m (gx_c X t k))
/-- the tape -/
abbrev gt_T : Type := Nat × (Nat → Nat)
def gt_ok (t : gt_T) : Prop := t.1 ≤ 160 ∧ ∀ i, i < t.1 → t.2 i < 256
def PC (σ : qm_St) (t : gt_T) : Prop := qm_rI σ 8 = nI t.1 ∧ ∀ i, i < t.1 → qm_rF σ 3 i = nI (t.2 i)
def PM (σ : qm_St) (t : gt_T) : Prop := qm_rI σ 29 = nI t.1 ∧ ∀ i, i < t.1 → qm_rF σ 47 i = nI (t.2 i)
/-- the image -/
abbrev gi_T : Type := Bool × tn_T
def gi_ok (T : tn_T) (n : Nat) (g : gi_T) : Prop := g.1 = true → tn_ok g.2 ∧ tn_w g.2 < n ∧ tn_L g.2 ≤ tn_L T ∧ ∀ l, l < tn_L g.2 → tn_k g.2 l = tn_k T l ∧ tn_m g.2 l = tn_m T l
def IC (σ : qm_St) (g : gi_T) : Prop := qm_rI σ 26 = b2i g.1 ∧ (g.1 = true → TR σ 17 28 g.2)
def IM (σ : qm_St) (g : gi_T) : Prop := qm_rI σ 32 = b2i g.1 ∧ (g.1 = true → qm_rI σ 33 = nI (tn_L g.2) ∧ qm_rI σ 34 = tn_n g.2 ∧ qm_rI σ 35 = nI (tn_w g.2) ∧ ∀ l, l < tn_L g.2 → qm_rF σ 50 l = tn_cv g.2 l ∧ qm_rF σ 50 (7 + l) = tn_sv g.2 l ∧ qm_rF σ 50 (14 + l) = nI (tn_b g.2 l))
/-- the sheets: sort, size, numbers -/
abbrev gs_T : Type := (Nat → Int32) × (Nat → Nat) × (Nat → Nat → Int32)
def gs_ok (S : gs_T) : Prop := ∀ s, s < 4 → (S.1 s = -1 ∨ S.1 s = 0 ∨ S.1 s = 1 ∨ S.1 s = 2) ∧ S.2.1 s ≤ 40
def SC (σ : qm_St) (S : gs_T) : Prop := ∀ s, s < 4 → qm_rF σ 34 s = S.1 s ∧ qm_rF σ 33 s = nI (S.2.1 s) ∧ ∀ i, i < 40 → qm_rF σ (35 + s) i = S.2.2 s i
def SM (σ : qm_St) (S : gs_T) : Prop := ∀ s, s < 4 → qm_rF σ 51 s = S.1 s ∧ qm_rF σ 52 s = nI (S.2.1 s) ∧ ∀ i, i < 40 → qm_rF σ 53 (40 * s + i) = S.2.2 s i
/-- all of it -/
abbrev gg_T : Type := tn_T × gx_T × gt_T × gi_T × gs_T
def gg_t (G : gg_T) : tn_T := G.1
def gg_x (G : gg_T) : gx_T := G.2.1
def gg_p (G : gg_T) : gt_T := G.2.2.1
def gg_i (G : gg_T) : gi_T := G.2.2.2.1
def gg_s (G : gg_T) : gs_T := G.2.2.2.2
def gg_ok (G : gg_T) : Prop := tn_ok (gg_t G) ∧ gx_ok (gg_x G) ∧ gt_ok (gg_p G) ∧ gi_ok (gg_t G) (gx_n (gg_x G)) (gg_i G) ∧ gs_ok (gg_s G) ∧ tn_w (gg_t G) < gx_n (gg_x G)
def CG (σ : qm_St) (G : gg_T) : Prop := TR σ 9 18 (gg_t G) ∧ XC σ (gg_x G) ∧ PC σ (gg_p G) ∧ IC σ (gg_i G) ∧ SC σ (gg_s G)
/-- the words that the other side looks up -/
def KW (σ : qm_St) : Prop := ∀ i, i < 96 → qm_rF σ 55 i = ([119, 111, 114, 116, 104, 32, 32, 32, 119, 97, 105, 116, 115, 32, 32, 32, 109, 111, 118, 101, 115, 32, 32, 32, 99, 111, 108, 111, 117, 114, 32, 32, 108, 111, 116, 32, 32, 32, 32, 32, 98, 101, 115, 105, 100, 101, 32, 32, 111, 114, 100, 101, 114, 32, 32, 32, 109, 111, 114, 101, 32, 32, 32, 32, 108, 111, 116, 115, 32, 32, 32, 32, 111, 114, 32, 32, 32, 32, 32, 32, 97, 110, 100, 32, 32, 32, 32, 32, 110, 111, 116, 32, 32, 32, 32, 32] : List Int32).getD i 0
def MG (σ : qm_St) (G : gg_T) : Prop := MR σ (gg_t G) ∧ XM σ (gg_x G) ∧ PM σ (gg_p G) ∧ IM σ (gg_i G) ∧ SM σ (gg_s G) ∧ KW σ
section GSM
variable {σ σ' : qm_St} {i1 i2 j1 j2 : Nat}
theorem XC.sm {X : gx_T} (hX : gx_ok X) (h : XC σ X) (g : sm σ σ' i1 i2 j1 j2) (hi : 8 ≤ i1 ∨ i2 ≤ 7) (hj : 18 ≤ j1 ∨ j2 ≤ 6) : XC σ' X := by
  have h6 := hX.2.1
  refine ⟨by rw [g.1 _ (by omega)]; exact h.1, fun t ht => ⟨fun p hp => ?_, fun k hk => ?_⟩⟩
  · rw [g.2 _ (by omega)]; exact (h.2 t ht).1 p hp
  · rw [g.2 _ (by omega)]; exact (h.2 t ht).2 k hk
theorem XM.sm {X : gx_T} (h : XM σ X) (g : sm σ σ' i1 i2 j1 j2) (hi : 31 ≤ i1 ∨ i2 ≤ 30) (hj : 50 ≤ j1 ∨ j2 ≤ 48) : XM σ' X := by
  refine ⟨by rw [g.1 _ (by omega)]; exact h.1, fun t ht => ⟨fun p hp => ?_, fun k hk => ?_⟩⟩
  · rw [g.2 _ (by omega)]; exact (h.2 t ht).1 p hp
  · rw [g.2 _ (by omega)]; exact (h.2 t ht).2 k hk
theorem PC.sm {t : gt_T} (h : PC σ t) (g : sm σ σ' i1 i2 j1 j2) (hi : 9 ≤ i1 ∨ i2 ≤ 8) (hj : 4 ≤ j1 ∨ j2 ≤ 3) : PC σ' t := ⟨by rw [g.1 _ (by omega)]; exact h.1, fun i hi' => by rw [g.2 _ (by omega)]; exact h.2 i hi'⟩
theorem PM.sm {t : gt_T} (h : PM σ t) (g : sm σ σ' i1 i2 j1 j2) (hi : 30 ≤ i1 ∨ i2 ≤ 29) (hj : 48 ≤ j1 ∨ j2 ≤ 47) : PM σ' t := ⟨by rw [g.1 _ (by omega)]; exact h.1, fun i hi' => by rw [g.2 _ (by omega)]; exact h.2 i hi'⟩
theorem IC.sm {t : gi_T} (h : IC σ t) (g : sm σ σ' i1 i2 j1 j2) (hi : i2 ≤ 17 ∨ 27 ≤ i1 ∨ (21 ≤ i1 ∧ i2 ≤ 26)) (hj : 33 ≤ j1 ∨ j2 ≤ 28) : IC σ' t := ⟨by rw [g.1 _ (by omega)]; exact h.1, fun hb => (h.2 hb).sm g (by omega) (by omega)⟩
theorem IM.sm {t : gi_T} (h : IM σ t) (g : sm σ σ' i1 i2 j1 j2) (hi : 36 ≤ i1 ∨ i2 ≤ 32) (hj : 51 ≤ j1 ∨ j2 ≤ 50) : IM σ' t := by
  refine ⟨by rw [g.1 _ (by omega)]; exact h.1, fun hb => ?_⟩
  obtain ⟨h1, h2, h3, h4⟩ := h.2 hb
  refine ⟨by rw [g.1 _ (by omega)]; exact h1, by rw [g.1 _ (by omega)]; exact h2, by rw [g.1 _ (by omega)]; exact h3, fun l hl => ?_⟩
  rw [g.2 _ (by omega), g.2 _ (by omega), g.2 _ (by omega)]
  exact h4 l hl
theorem SC.sm {S : gs_T} (h : SC σ S) (g : sm σ σ' i1 i2 j1 j2) (hj : 39 ≤ j1 ∨ j2 ≤ 33) : SC σ' S := by
  intro s hs
  obtain ⟨h1, h2, h3⟩ := h s hs
  exact ⟨by rw [g.2 _ (by omega)]; exact h1, by rw [g.2 _ (by omega)]; exact h2, fun i hi => by rw [g.2 _ (by omega)]; exact h3 i hi⟩
theorem SM.sm {S : gs_T} (h : SM σ S) (g : sm σ σ' i1 i2 j1 j2) (hj : 54 ≤ j1 ∨ j2 ≤ 51) : SM σ' S := by
  intro s hs
  obtain ⟨h1, h2, h3⟩ := h s hs
  exact ⟨by rw [g.2 _ (by omega)]; exact h1, by rw [g.2 _ (by omega)]; exact h2, fun i hi => by rw [g.2 _ (by omega)]; exact h3 i hi⟩
theorem KW.sm (h : KW σ) (g : sm σ σ' i1 i2 j1 j2) (hj : 56 ≤ j1 ∨ j2 ≤ 55) : KW σ' := fun i hi => by rw [g.2 _ (by omega)]; exact h i hi
/-- a change of the other side alone -/
theorem CG.smM {G : gg_T} (hG : gg_ok G) (h : CG σ G) (g : sm σ σ' 27 46 42 62) : CG σ' G :=
  ⟨h.1.sm g (by omega) (by omega), h.2.1.sm hG.2.1 g (by omega) (by omega), h.2.2.1.sm g (by omega) (by omega), h.2.2.2.1.sm g (by omega) (by omega), h.2.2.2.2.sm g (by omega)⟩
theorem MG.smC {G : gg_T} (h : MG σ G) (g : sm σ σ' 0 27 0 42) : MG σ' G :=
  ⟨h.1.sm g (by omega) (by omega), h.2.1.sm g (by omega) (by omega), h.2.2.1.sm g (by omega) (by omega), h.2.2.2.1.sm g (by omega) (by omega), h.2.2.2.2.1.sm g (by omega), h.2.2.2.2.2.sm g (by omega)⟩
/-- but the true town, all of the class's side that matters stays -/
theorem CG.town {G : gg_T} {T : tn_T} (hG : gg_ok G) (h : CG σ G) (hT : TR σ' 9 18 T) (g : sm σ σ' 9 13 18 23) : CG σ' (T, gg_x G, gg_p G, gg_i G, gg_s G) :=
  ⟨hT, h.2.1.sm hG.2.1 g (by omega) (by omega), h.2.2.1.sm g (by omega) (by omega), h.2.2.2.1.sm g (by omega) (by omega), h.2.2.2.2.sm g (by omega)⟩
/-- what is only thought of -/
theorem CG.think {G : gg_T} (hG : gg_ok G) (h : CG σ G) (g : sm σ σ' 13 17 23 28) : CG σ' G :=
  ⟨h.1.sm g (by omega) (by omega), h.2.1.sm hG.2.1 g (by omega) (by omega), h.2.2.1.sm g (by omega) (by omega), h.2.2.2.1.sm g (by omega) (by omega), h.2.2.2.2.sm g (by omega)⟩
theorem MG.town {G : gg_T} {T : tn_T} (h : MG σ G) (hT : MR σ' T) (g : sm σ σ' 27 29 42 47) : MG σ' (T, gg_x G, gg_p G, gg_i G, gg_s G) :=
  ⟨hT, h.2.1.sm g (by omega) (by omega), h.2.2.1.sm g (by omega) (by omega), h.2.2.2.1.sm g (by omega) (by omega), h.2.2.2.2.1.sm g (by omega), h.2.2.2.2.2.sm g (by omega)⟩
end GSM
