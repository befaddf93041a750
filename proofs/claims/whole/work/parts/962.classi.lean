/-! ===== worlds block by block ===== -/
theorem qn_Pperm {D : va_G} {cl : List vw_C} {ws ws' : va_W} {H : Heap} (hp : ws.Perm ws') (h : va_P D cl ws H) : va_P D cl ws' H := fun k x hk => by
  have h1 : x ∈ ws := hp.mem_iff.mpr (List.mem_of_getElem? hk)
  obtain ⟨i, hi⟩ := List.getElem?_of_mem h1
  exact h i x hi
theorem qn_D_iff {A : Nat → Prop} {ws : va_W} : va_D A ws ↔ ws.Pairwise (fun x y => x.1 ≠ y.1) ∧ ∀ x ∈ ws, A x.1 := by
  constructor
  · intro hD
    refine ⟨List.pairwise_iff_getElem.mpr (fun i j hi hj hij e => ?_), fun x hx => ?_⟩
    · have := hD.1 i j _ _ (List.getElem?_eq_getElem hi) (List.getElem?_eq_getElem hj) e
      omega
    · obtain ⟨i, hi⟩ := List.getElem?_of_mem hx
      exact hD.2 i x hi
  · rintro ⟨h1, h2⟩
    have h1 := List.pairwise_iff_getElem.mp h1
    refine ⟨fun i j x y hx hy e => ?_, fun k x hk => h2 x (List.mem_of_getElem? hk)⟩
    obtain ⟨li, ei⟩ := List.getElem?_eq_some_iff.mp hx
    obtain ⟨lj, ej⟩ := List.getElem?_eq_some_iff.mp hy
    rcases Nat.lt_trichotomy i j with h | h | h
    · exact absurd (by rw [ei, ej]; exact e) (h1 i j li lj h)
    · exact h
    · exact absurd (by rw [ei, ej]; exact e.symm) (h1 j i lj li h)
theorem qn_Dperm {A : Nat → Prop} {ws ws' : va_W} (hp : ws.Perm ws') (h : va_D A ws) : va_D A ws' := by
  rw [qn_D_iff] at h ⊢
  exact ⟨(hp.pairwise_iff (fun h => Ne.symm h)).mp h.1, fun x hx => h.2 x (hp.mem_iff.mpr hx)⟩
theorem qn_Pl {D : va_G} {cl : List vw_C} {a b : va_W} {H : Heap} (h : va_P D cl (a ++ b) H) : va_P D cl a H := fun k x hk => h k x (by rw [List.getElem?_append_left (List.getElem?_eq_some_iff.mp hk).1]; exact hk)
theorem qn_Pr {D : va_G} {cl : List vw_C} {a b : va_W} {H : Heap} (h : va_P D cl (a ++ b) H) : va_P D cl b H := fun k x hk => h (a.length + k) x (by rw [List.getElem?_append_right (Nat.le_add_right _ _), Nat.add_sub_cancel_left]; exact hk)
theorem qn_Dfst {A : Nat → Prop} {ws ws' : va_W} (h : va_D A ws) (e : ws'.map Prod.fst = ws.map Prod.fst) : va_D A ws' := by
  have key : ∀ (k : Nat) (x : Nat × va_E), ws'[k]? = some x → ∃ y, ws[k]? = some y ∧ y.1 = x.1 := by
    intro k x hk
    have h1 : (ws'.map Prod.fst)[k]? = some x.1 := by rw [List.getElem?_map, hk]; rfl
    rw [e, List.getElem?_map] at h1
    cases hy : ws[k]? with
    | none => rw [hy] at h1; cases h1
    | some y => rw [hy] at h1; exact ⟨y, rfl, Option.some.inj h1⟩
  refine ⟨fun i j x y hx hy hxy => ?_, fun k x hk => ?_⟩
  · obtain ⟨x2, h1, h2⟩ := key i x hx
    obtain ⟨y2, h3, h4⟩ := key j y hy
    exact h.1 i j x2 y2 h1 h3 (by rw [h2, h4]; exact hxy)
  · obtain ⟨x2, h1, h2⟩ := key k x hk
    rw [← h2]
    exact h.2 k x2 h1
theorem qn_perm9 {α : Type} (h : α) (T0 T1 T2 X S O E F : List α) : (h :: (((((((T0 ++ T1) ++ T2) ++ X) ++ S) ++ O) ++ E) ++ F)).Perm (X ++ (T0 ++ (T1 ++ (T2 ++ (S ++ (O ++ (E ++ (F ++ [h])))))))) := by
  refine ((List.perm_append_singleton h _).symm).trans ?_
  have h1 := (List.perm_append_comm (l₁ := T0 ++ (T1 ++ T2)) (l₂ := X)).append_right (S ++ (O ++ (E ++ (F ++ [h]))))
  simp only [List.append_assoc] at h1 ⊢
  exact h1
/-! ===== a world whose places have other names behind ===== -/
def qn_le (N I J : Nat) : qm_LE → Bool
  | .inl (_, fs) => fs.all (fun f => match f with
    | .inl s => decide (s < I)
    | .inr b => decide (b < N))
  | .inr (.inl (_, j)) => decide (j < J)
  | .inr (.inr (n, b)) => decide (b + n ≤ N)
theorem qn_re {D : va_G} {cl : List vw_C} {α α' : Nat → Nat} {cA cR : ClassId} {lay : List qm_LE} {σ σ' : qm_St} {H : Heap} {A : Nat → Prop} {N I J : Nat} (hc : ∀ e ∈ lay, qn_le N I J e = true) (hN : lay.length ≤ N) (hα : ∀ k, k < N → α' k = α k) (hI : ∀ s, s < I → σ'.1 s = σ.1 s) (hJ : ∀ j, j < J → σ'.2 j = σ.2 j)
    (hP : va_P D cl (qm_W α cA cR lay σ) H) (hD : va_D A (qm_W α cA cR lay σ)) : va_P D cl (qm_W α' cA cR lay σ') H ∧ va_D A (qm_W α' cA cR lay σ') := by
  have get : ∀ {α : Nat → Nat} {σ : qm_St} {k : Nat} {x : Nat × va_E}, (qm_W α cA cR lay σ)[k]? = some x → ∃ e, lay[k]? = some e ∧ x = (α k, qm_cell α cA cR σ e) := by
    intro α σ k x h
    unfold qm_W at h
    rw [List.getElem?_mapIdx] at h
    cases e : lay[k]? with
    | none => rw [e] at h; cases h
    | some y => rw [e] at h; exact ⟨y, rfl, (Option.some.inj h).symm⟩
  have lt : ∀ {k : Nat} {e : qm_LE}, lay[k]? = some e → k < N := fun h => Nat.lt_of_lt_of_le (List.getElem?_eq_some_iff.mp h).1 hN
  refine ⟨qn_to hP (fun k x hk => ?_), ⟨fun i j x y hx hy hxy => ?_, fun k x hk => ?_⟩⟩
  · obtain ⟨e, he, rfl⟩ := get hk
    refine ⟨k, _, qm_W_at he, fun h => ?_⟩
    rw [hα k (lt he)]
    have hce := hc e (List.mem_of_getElem? he)
    rcases e with ⟨ci, fs⟩ | ⟨n, j⟩ | ⟨n, b⟩
    · have ef : fs.map (qm_fv α' σ') = fs.map (qm_fv α σ) := List.map_congr_left (fun f hf => by
        have hcf := List.all_eq_true.mp hce f hf
        cases f with
        | inl s => exact congrArg Value.int (hI s (of_decide_eq_true hcf))
        | inr b => exact congrArg Value.ref (hα b (of_decide_eq_true hcf)))
      show va_at D cl (α k, .inr (ci, fs.map (qm_fv α' σ'))) H
      rw [ef]
      exact h
    · show va_at D cl (α k, .inl (cA, n, .inl (σ'.2 j))) H
      rw [hJ j (of_decide_eq_true hce)]
      exact h
    · exact qn_refs (fun i hi => congrArg some (hα (b + i) (by have := of_decide_eq_true hce; omega)).symm) h
  · obtain ⟨e, he, rfl⟩ := get hx
    obtain ⟨f, hf, rfl⟩ := get hy
    have h2 : α' i = α' j := hxy
    rw [hα i (lt he), hα j (lt hf)] at h2
    exact hD.1 i j _ _ (qm_W_at he) (qm_W_at hf) h2
  · obtain ⟨e, he, rfl⟩ := get hk
    show A (α' k)
    rw [hα k (lt he)]
    exact hD.2 k _ (qm_W_at he)

/-! ===== the class's constructor: its world ===== -/
def qn_layC2 : List qm_LE := [.inl (6, [.inl 9, .inl 10, .inl 11, .inl 12, .inr 23, .inr 24, .inr 25, .inr 26, .inr 27]), .inr (.inl (7, 18)), .inr (.inl (7, 19)), .inr (.inl (7, 20)), .inr (.inl (7, 21)), .inr (.inl (7, 22)), .inl (6, [.inl 13, .inl 14, .inl 15, .inl 16, .inr 29, .inr 30, .inr 31, .inr 32, .inr 33]), .inr (.inl (7, 23)), .inr (.inl (7, 24)), .inr (.inl (7, 25)), .inr (.inl (7, 26)), .inr (.inl (7, 27)), .inl (6, [.inl 17, .inl 18, .inl 19, .inl 20, .inr 35, .inr 36, .inr 37, .inr 38, .inr 39]), .inr (.inl (7, 28)), .inr (.inl (7, 29)), .inr (.inl (7, 30)), .inr (.inl (7, 31)), .inr (.inl (7, 32)), .inl (4, [.inr 41, .inr 42, .inr 43]), .inr (.inr (4, 44)), .inr (.inl (4, 33)), .inr (.inl (4, 34)), .inr (.inl (40, 35)), .inr (.inl (40, 36)), .inr (.inl (40, 37)), .inr (.inl (40, 38)), .inl (1, [.inr 49, .inl 21]), .inr (.inl (7, 39)), .inl (3, [.inl 22, .inl 23, .inl 24]), .inl (0, [.inr 52, .inr 53, .inl 25]), .inr (.inl (128, 40)), .inr (.inl (128, 41)), .inl (7, [.inr 22, .inr 28, .inr 34, .inl 26, .inr 4, .inr 40, .inr 48, .inr 50, .inr 51])]
def qn_layC : List qm_LE := qm_layT ++ qn_layC2
def qn_wT (cA : ClassId) (t : Nat) (a : Nat → Nat) : va_W := [(t, .inr (6, [.int 0, .int 0, .int 0, .int 0, .ref (a 0), .ref (a 1), .ref (a 2), .ref (a 3), .ref (a 4)])), (a 0, .inl (cA, 7, .inl (fun _ => 0))), (a 1, .inl (cA, 7, .inl (fun _ => 0))), (a 2, .inl (cA, 7, .inl (fun _ => 0))), (a 3, .inl (cA, 7, .inl (fun _ => 0))), (a 4, .inl (cA, 7, .inl (fun _ => 0)))]
def qn_wO (cA : ClassId) (o : Nat) (a : Nat → Nat) : va_W := [(o, .inr (1, [.ref (a 0), .int 0])), (a 0, .inl (cA, 7, .inl (fun _ => 0)))]
def qn_wE (s : Nat) : va_W := [(s, .inr (3, [.int 0, .int 0, .int 0]))]
def qn_wF (cA : ClassId) (f : Nat) (a : Nat → Nat) : va_W := [(f, .inr (0, [.ref (a 0), .ref (a 1), .int 0])), (a 0, .inl (cA, 128, .inl (fun _ => 0))), (a 1, .inl (cA, 128, .inl (fun _ => 0)))]
def qn_wX (cA cR : ClassId) (u : (Nat → Nat) × qm_St) : va_W := qm_W u.1 cA cR qm_layT u.2
def qn_wS (cA cR : ClassId) (u : (Nat → Nat) × qm_St) : va_W := qm_W u.1 cA cR qn_layS u.2
def qn_wEE (s : Nat) (_ : Nat → Nat) : va_W := qn_wE s
def qn_aC (β uT : Nat → Nat) (rest : List Nat) : Nat → Nat := fun k => if 1000 ≤ k then β k else if k < 22 then uT k else rest.getD (k - 22) 0
theorem qn_aC_lt {β uT : Nat → Nat} {rest : List Nat} {k : Nat} (h : k < 22) : qn_aC β uT rest k = uT k := by
  unfold qn_aC
  rw [if_neg (by omega), if_pos h]
def qn_nC (t0 t1 t2 : Nat) (b0 b1 b2 uS : Nat → Nat) (o0 s0 f0 h0 : Nat) (bo bf : Nat → Nat) : List Nat := [t0, b0 0, b0 1, b0 2, b0 3, b0 4, t1, b1 0, b1 1, b1 2, b1 3, b1 4, t2, b2 0, b2 1, b2 2, b2 3, b2 4, uS 0, uS 3, uS 1, uS 2, uS 4, uS 5, uS 6, uS 7, o0, bo 0, s0, f0, bf 0, bf 1, h0]
def qn_gC (σT σS : qm_St) : qm_St := (fun i => if i < 9 then σT.1 i else 0, fun j => if j < 18 then σT.2 j else if j < 33 then fun _ => 0 else if j < 39 then σS.2 j else fun _ => 0)
theorem qn_gC_T {σT σS : qm_St} {j : Nat} (h : j < 18) : (qn_gC σT σS).2 j = σT.2 j := if_pos h
theorem qn_gC_0 {σT σS : qm_St} {j : Nat} (h : 18 ≤ j ∧ j < 33 ∨ 39 ≤ j) : (qn_gC σT σS).2 j = fun _ => 0 := by
  show (if j < 18 then σT.2 j else if j < 33 then fun _ => 0 else if j < 39 then σS.2 j else fun _ => 0) = _
  rw [if_neg (by omega)]
  by_cases h2 : j < 33
  · rw [if_pos h2]
  · rw [if_neg h2, if_neg (by omega)]
theorem qn_gC_S {σT σS : qm_St} {j : Nat} (h : 33 ≤ j ∧ j < 39) : (qn_gC σT σS).2 j = σS.2 j := by
  show (if j < 18 then σT.2 j else if j < 33 then fun _ => 0 else if j < 39 then σS.2 j else fun _ => 0) = _
  rw [if_neg (by omega), if_neg (by omega), if_pos (by omega)]
/-- what a new object of the class holds -/
def qn_pC (β : Nat → Nat) (h0 : Nat) (u : (Nat → Nat) × qm_St) : Prop := u.1 54 = h0 ∧ (∀ i, u.1 (1000 + i) = β (1000 + i)) ∧ qm_rI u.2 7 = 1 ∧ qm_rI u.2 8 = 0 ∧ (∀ p, p < 4 → qm_rF u.2 12 p = nI (fst_ 5 6 qn_c0 p)) ∧ (∀ k, k < qn_c0.length → qm_rF u.2 6 k = nI (qn_c0.getD k 0)) ∧ (∀ i, 9 ≤ i → i < 27 → u.2.1 i = 0) ∧ (∀ j, 18 ≤ j → j < 33 → u.2.2 j = fun _ => 0) ∧ (∀ i, i < 4 → qm_rF u.2 33 i = 0 ∧ qm_rF u.2 34 i = -1) ∧ ∀ j, 35 ≤ j → j < 39 → ∀ i, qm_rF u.2 j i = 0
theorem qn_layT_ok : ∀ e ∈ qm_layT, qn_le 22 9 18 e = true := by decide +kernel
set_option maxHeartbeats 2000000 in
set_option maxRecDepth 100000 in
theorem qn_X8_P2 {D : va_G} {A : Nat → Prop} {cA cR : ClassId} {H : Heap} {α : Nat → Nat} {σ : qm_St} {uS : (Nat → Nat) × qm_St} {t0 t1 t2 : Nat} {b0 b1 b2 : Nat → Nat} {o0 s0 f0 h0 x0 : Nat} {bo bf : Nat → Nat} (eα : α 4 = x0 ∧ α 22 = t0 ∧ α 23 = b0 0 ∧ α 24 = b0 1 ∧ α 25 = b0 2 ∧ α 26 = b0 3 ∧ α 27 = b0 4 ∧ α 28 = t1 ∧ α 29 = b1 0 ∧ α 30 = b1 1 ∧ α 31 = b1 2 ∧ α 32 = b1 3 ∧ α 33 = b1 4 ∧ α 34 = t2 ∧ α 35 = b2 0 ∧ α 36 = b2 1 ∧ α 37 = b2 2 ∧ α 38 = b2 3 ∧ α 39 = b2 4 ∧ α 40 = uS.1 0 ∧ α 41 = uS.1 3 ∧ α 42 = uS.1 1 ∧ α 43 = uS.1 2 ∧ α 44 = uS.1 4 ∧ α 45 = uS.1 5 ∧ α 46 = uS.1 6 ∧ α 47 = uS.1 7 ∧ α 48 = o0 ∧ α 49 = bo 0 ∧ α 50 = s0 ∧ α 51 = f0 ∧ α 52 = bf 0 ∧ α 53 = bf 1 ∧ α 54 = h0) (eσ : σ.1 9 = 0 ∧ σ.1 10 = 0 ∧ σ.1 11 = 0 ∧ σ.1 12 = 0 ∧ σ.1 13 = 0 ∧ σ.1 14 = 0 ∧ σ.1 15 = 0 ∧ σ.1 16 = 0 ∧ σ.1 17 = 0 ∧ σ.1 18 = 0 ∧ σ.1 19 = 0 ∧ σ.1 20 = 0 ∧ σ.1 21 = 0 ∧ σ.1 22 = 0 ∧ σ.1 23 = 0 ∧ σ.1 24 = 0 ∧ σ.1 25 = 0 ∧ σ.1 26 = 0 ∧ σ.2 18 = (fun _ => 0) ∧ σ.2 19 = (fun _ => 0) ∧ σ.2 20 = (fun _ => 0) ∧ σ.2 21 = (fun _ => 0) ∧ σ.2 22 = (fun _ => 0) ∧ σ.2 23 = (fun _ => 0) ∧ σ.2 24 = (fun _ => 0) ∧ σ.2 25 = (fun _ => 0) ∧ σ.2 26 = (fun _ => 0) ∧ σ.2 27 = (fun _ => 0) ∧ σ.2 28 = (fun _ => 0) ∧ σ.2 29 = (fun _ => 0) ∧ σ.2 30 = (fun _ => 0) ∧ σ.2 31 = (fun _ => 0) ∧ σ.2 32 = (fun _ => 0) ∧ σ.2 33 = uS.2.2 33 ∧ σ.2 34 = uS.2.2 34 ∧ σ.2 35 = uS.2.2 35 ∧ σ.2 36 = uS.2.2 36 ∧ σ.2 37 = uS.2.2 37 ∧ σ.2 38 = uS.2.2 38 ∧ σ.2 39 = (fun _ => 0) ∧ σ.2 40 = (fun _ => 0) ∧ σ.2 41 = (fun _ => 0))
    (hP : va_P D vwCl (qn_wT cA t0 b0 ++ (qn_wT cA t1 b1 ++ (qn_wT cA t2 b2 ++ ([(uS.1 0, .inr (4, [.ref (uS.1 3), .ref (uS.1 1), .ref (uS.1 2)])), (uS.1 3, .inl (cR, 4, .inr (.inr (.inr (.inr (fun i => some (α (44 + i)))))))), (uS.1 1, .inl (cA, 4, .inl (uS.2.2 33))), (uS.1 2, .inl (cA, 4, .inl (uS.2.2 34))), (uS.1 4, .inl (cA, 40, .inl (uS.2.2 35))), (uS.1 5, .inl (cA, 40, .inl (uS.2.2 36))), (uS.1 6, .inl (cA, 40, .inl (uS.2.2 37))), (uS.1 7, .inl (cA, 40, .inl (uS.2.2 38)))] ++ (qn_wO cA o0 bo ++ (qn_wE s0 ++ (qn_wF cA f0 bf ++ [(h0, .inr (7, [.ref t0, .ref t1, .ref t2, .int 0, .ref x0, .ref (uS.1 0), .ref o0, .ref s0, .ref f0]))]))))))) H) : va_P D vwCl (qn_Wf α cA cR σ 22 qn_layC2) H := by
  obtain ⟨a4, a22, a23, a24, a25, a26, a27, a28, a29, a30, a31, a32, a33, a34, a35, a36, a37, a38, a39, a40, a41, a42, a43, a44, a45, a46, a47, a48, a49, a50, a51, a52, a53, a54⟩ := eα
  obtain ⟨n9, n10, n11, n12, n13, n14, n15, n16, n17, n18, n19, n20, n21, n22, n23, n24, n25, n26, r18, r19, r20, r21, r22, r23, r24, r25, r26, r27, r28, r29, r30, r31, r32, r33, r34, r35, r36, r37, r38, r39, r40, r41⟩ := eσ
  have e1 : qn_Wf α cA cR σ 22 qn_layC2 = [(α 22, .inr (6, [.int (σ.1 9), .int (σ.1 10), .int (σ.1 11), .int (σ.1 12), .ref (α 23), .ref (α 24), .ref (α 25), .ref (α 26), .ref (α 27)])), (α 23, .inl (cA, 7, .inl (σ.2 18))), (α 24, .inl (cA, 7, .inl (σ.2 19))), (α 25, .inl (cA, 7, .inl (σ.2 20))), (α 26, .inl (cA, 7, .inl (σ.2 21))), (α 27, .inl (cA, 7, .inl (σ.2 22))), (α 28, .inr (6, [.int (σ.1 13), .int (σ.1 14), .int (σ.1 15), .int (σ.1 16), .ref (α 29), .ref (α 30), .ref (α 31), .ref (α 32), .ref (α 33)])), (α 29, .inl (cA, 7, .inl (σ.2 23))), (α 30, .inl (cA, 7, .inl (σ.2 24))), (α 31, .inl (cA, 7, .inl (σ.2 25))), (α 32, .inl (cA, 7, .inl (σ.2 26))), (α 33, .inl (cA, 7, .inl (σ.2 27))), (α 34, .inr (6, [.int (σ.1 17), .int (σ.1 18), .int (σ.1 19), .int (σ.1 20), .ref (α 35), .ref (α 36), .ref (α 37), .ref (α 38), .ref (α 39)])), (α 35, .inl (cA, 7, .inl (σ.2 28))), (α 36, .inl (cA, 7, .inl (σ.2 29))), (α 37, .inl (cA, 7, .inl (σ.2 30))), (α 38, .inl (cA, 7, .inl (σ.2 31))), (α 39, .inl (cA, 7, .inl (σ.2 32))), (α 40, .inr (4, [.ref (α 41), .ref (α 42), .ref (α 43)])), (α 41, .inl (cR, 4, .inr (.inr (.inr (.inr (fun i => some (α (44 + i)))))))), (α 42, .inl (cA, 4, .inl (σ.2 33))), (α 43, .inl (cA, 4, .inl (σ.2 34))), (α 44, .inl (cA, 40, .inl (σ.2 35))), (α 45, .inl (cA, 40, .inl (σ.2 36))), (α 46, .inl (cA, 40, .inl (σ.2 37))), (α 47, .inl (cA, 40, .inl (σ.2 38))), (α 48, .inr (1, [.ref (α 49), .int (σ.1 21)])), (α 49, .inl (cA, 7, .inl (σ.2 39))), (α 50, .inr (3, [.int (σ.1 22), .int (σ.1 23), .int (σ.1 24)])), (α 51, .inr (0, [.ref (α 52), .ref (α 53), .int (σ.1 25)])), (α 52, .inl (cA, 128, .inl (σ.2 40))), (α 53, .inl (cA, 128, .inl (σ.2 41))), (α 54, .inr (7, [.ref (α 22), .ref (α 28), .ref (α 34), .int (σ.1 26), .ref (α 4), .ref (α 40), .ref (α 48), .ref (α 50), .ref (α 51)]))] := rfl
  rw [e1, a4, a22, a23, a24, a25, a26, a27, a28, a29, a30, a31, a32, a33, a34, a35, a36, a37, a38, a39, a40, a41, a42, a43, a44, a45, a46, a47, a48, a49, a50, a51, a52, a53, a54, n9, n10, n11, n12, n13, n14, n15, n16, n17, n18, n19, n20, n21, n22, n23, n24, n25, n26, r18, r19, r20, r21, r22, r23, r24, r25, r26, r27, r28, r29, r30, r31, r32, r33, r34, r35, r36, r37, r38, r39, r40, r41]
  exact hP
set_option maxHeartbeats 4000000 in
set_option maxRecDepth 100000 in
theorem qn_X8_end {D : va_G} {A : Nat → Prop} {cA cR : ClassId} {H : Heap} {β : Nat → Nat} {uT uS : (Nat → Nat) × qm_St} {t0 t1 t2 : Nat} {b0 b1 b2 : Nat → Nat} {x0 y0 o0 s0 f0 h0 : Nat} {bo bf : Nat → Nat} (gx : uT.1 4 = x0) (gy : uS.1 0 = y0) (gT1 : qm_rI uT.2 7 = 1) (gT2 : qm_rI uT.2 8 = 0) (gT3 : ∀ p, p < 4 → qm_rF uT.2 12 p = nI (fst_ 5 6 qn_c0 p)) (gT4 : ∀ k, k < qn_c0.length → qm_rF uT.2 6 k = nI (qn_c0.getD k 0)) (gS1 : ∀ i, i < 4 → qm_rF uS.2 33 i = 0 ∧ qm_rF uS.2 34 i = -1) (gS2 : ∀ j, 35 ≤ j → j < 39 → ∀ i, qm_rF uS.2 j i = 0)
    (hP : va_P D vwCl (qm_W uT.1 cA cR qm_layT uT.2 ++ (qn_wT cA t0 b0 ++ (qn_wT cA t1 b1 ++ (qn_wT cA t2 b2 ++ (qm_W uS.1 cA cR qn_layS uS.2 ++ (qn_wO cA o0 bo ++ (qn_wE s0 ++ (qn_wF cA f0 bf ++ [(h0, .inr (7, [.ref t0, .ref t1, .ref t2, .int 0, .ref x0, .ref y0, .ref o0, .ref s0, .ref f0]))])))))))) H) (hD : va_D A (qm_W uT.1 cA cR qm_layT uT.2 ++ (qn_wT cA t0 b0 ++ (qn_wT cA t1 b1 ++ (qn_wT cA t2 b2 ++ (qm_W uS.1 cA cR qn_layS uS.2 ++ (qn_wO cA o0 bo ++ (qn_wE s0 ++ (qn_wF cA f0 bf ++ [(h0, .inr (7, [.ref t0, .ref t1, .ref t2, .int 0, .ref x0, .ref y0, .ref o0, .ref s0, .ref f0]))]))))))))) : va_P D vwCl (qm_W (qn_aC β uT.1 (qn_nC t0 t1 t2 b0 b1 b2 uS.1 o0 s0 f0 h0 bo bf)) cA cR qn_layC (qn_gC uT.2 uS.2)) H ∧ va_D A (qm_W (qn_aC β uT.1 (qn_nC t0 t1 t2 b0 b1 b2 uS.1 o0 s0 f0 h0 bo bf)) cA cR qn_layC (qn_gC uT.2 uS.2)) ∧ qn_pC β h0 (qn_aC β uT.1 (qn_nC t0 t1 t2 b0 b1 b2 uS.1 o0 s0 f0 h0 bo bf), qn_gC uT.2 uS.2) := by
  subst gx
  subst gy
  obtain ⟨α, hα⟩ : ∃ f9 : Nat → Nat, f9 = qn_aC β uT.1 (qn_nC t0 t1 t2 b0 b1 b2 uS.1 o0 s0 f0 h0 bo bf) := ⟨_, rfl⟩
  obtain ⟨σ, hσ⟩ : ∃ f9 : qm_St, f9 = qn_gC uT.2 uS.2 := ⟨_, rfl⟩
  rw [← hα, ← hσ]
  have hlt : ∀ k, k < 22 → α k = uT.1 k := fun k hk => by rw [hα]; exact qn_aC_lt hk
  have eα : α 4 = uT.1 4 ∧ α 22 = t0 ∧ α 23 = b0 0 ∧ α 24 = b0 1 ∧ α 25 = b0 2 ∧ α 26 = b0 3 ∧ α 27 = b0 4 ∧ α 28 = t1 ∧ α 29 = b1 0 ∧ α 30 = b1 1 ∧ α 31 = b1 2 ∧ α 32 = b1 3 ∧ α 33 = b1 4 ∧ α 34 = t2 ∧ α 35 = b2 0 ∧ α 36 = b2 1 ∧ α 37 = b2 2 ∧ α 38 = b2 3 ∧ α 39 = b2 4 ∧ α 40 = uS.1 0 ∧ α 41 = uS.1 3 ∧ α 42 = uS.1 1 ∧ α 43 = uS.1 2 ∧ α 44 = uS.1 4 ∧ α 45 = uS.1 5 ∧ α 46 = uS.1 6 ∧ α 47 = uS.1 7 ∧ α 48 = o0 ∧ α 49 = bo 0 ∧ α 50 = s0 ∧ α 51 = f0 ∧ α 52 = bf 0 ∧ α 53 = bf 1 ∧ α 54 = h0 := ⟨hlt 4 (by omega), by rw [hα]; rfl, by rw [hα]; rfl, by rw [hα]; rfl, by rw [hα]; rfl, by rw [hα]; rfl, by rw [hα]; rfl, by rw [hα]; rfl, by rw [hα]; rfl, by rw [hα]; rfl, by rw [hα]; rfl, by rw [hα]; rfl, by rw [hα]; rfl, by rw [hα]; rfl, by rw [hα]; rfl, by rw [hα]; rfl, by rw [hα]; rfl, by rw [hα]; rfl, by rw [hα]; rfl, by rw [hα]; rfl, by rw [hα]; rfl, by rw [hα]; rfl, by rw [hα]; rfl, by rw [hα]; rfl, by rw [hα]; rfl, by rw [hα]; rfl, by rw [hα]; rfl, by rw [hα]; rfl, by rw [hα]; rfl, by rw [hα]; rfl, by rw [hα]; rfl, by rw [hα]; rfl, by rw [hα]; rfl, by rw [hα]; rfl⟩
  have eσ : σ.1 9 = 0 ∧ σ.1 10 = 0 ∧ σ.1 11 = 0 ∧ σ.1 12 = 0 ∧ σ.1 13 = 0 ∧ σ.1 14 = 0 ∧ σ.1 15 = 0 ∧ σ.1 16 = 0 ∧ σ.1 17 = 0 ∧ σ.1 18 = 0 ∧ σ.1 19 = 0 ∧ σ.1 20 = 0 ∧ σ.1 21 = 0 ∧ σ.1 22 = 0 ∧ σ.1 23 = 0 ∧ σ.1 24 = 0 ∧ σ.1 25 = 0 ∧ σ.1 26 = 0 ∧ σ.2 18 = (fun _ => 0) ∧ σ.2 19 = (fun _ => 0) ∧ σ.2 20 = (fun _ => 0) ∧ σ.2 21 = (fun _ => 0) ∧ σ.2 22 = (fun _ => 0) ∧ σ.2 23 = (fun _ => 0) ∧ σ.2 24 = (fun _ => 0) ∧ σ.2 25 = (fun _ => 0) ∧ σ.2 26 = (fun _ => 0) ∧ σ.2 27 = (fun _ => 0) ∧ σ.2 28 = (fun _ => 0) ∧ σ.2 29 = (fun _ => 0) ∧ σ.2 30 = (fun _ => 0) ∧ σ.2 31 = (fun _ => 0) ∧ σ.2 32 = (fun _ => 0) ∧ σ.2 33 = uS.2.2 33 ∧ σ.2 34 = uS.2.2 34 ∧ σ.2 35 = uS.2.2 35 ∧ σ.2 36 = uS.2.2 36 ∧ σ.2 37 = uS.2.2 37 ∧ σ.2 38 = uS.2.2 38 ∧ σ.2 39 = (fun _ => 0) ∧ σ.2 40 = (fun _ => 0) ∧ σ.2 41 = (fun _ => 0) := ⟨by rw [hσ]; rfl, by rw [hσ]; rfl, by rw [hσ]; rfl, by rw [hσ]; rfl, by rw [hσ]; rfl, by rw [hσ]; rfl, by rw [hσ]; rfl, by rw [hσ]; rfl, by rw [hσ]; rfl, by rw [hσ]; rfl, by rw [hσ]; rfl, by rw [hσ]; rfl, by rw [hσ]; rfl, by rw [hσ]; rfl, by rw [hσ]; rfl, by rw [hσ]; rfl, by rw [hσ]; rfl, by rw [hσ]; rfl, by rw [hσ]; rfl, by rw [hσ]; rfl, by rw [hσ]; rfl, by rw [hσ]; rfl, by rw [hσ]; rfl, by rw [hσ]; rfl, by rw [hσ]; rfl, by rw [hσ]; rfl, by rw [hσ]; rfl, by rw [hσ]; rfl, by rw [hσ]; rfl, by rw [hσ]; rfl, by rw [hσ]; rfl, by rw [hσ]; rfl, by rw [hσ]; rfl, by rw [hσ]; rfl, by rw [hσ]; rfl, by rw [hσ]; rfl, by rw [hσ]; rfl, by rw [hσ]; rfl, by rw [hσ]; rfl, by rw [hσ]; rfl, by rw [hσ]; rfl, by rw [hσ]; rfl⟩
  have hPX : va_P D vwCl (qm_W uT.1 cA cR qm_layT uT.2) H := qn_Pl hP
  have hP1 := qn_Pr hP
  have hDX : va_D (fun _ => True) (qm_W uT.1 cA cR qm_layT uT.2) := by
    rw [qn_D_iff] at hD ⊢
    exact ⟨(List.pairwise_append.mp hD.1).1, fun _ _ => trivial⟩
  have hPX2 := (qn_re (σ' := σ) qn_layT_ok (Nat.le_of_ble_eq_true rfl) hlt (fun s hs => by rw [hσ]; exact if_pos hs) (fun j hj => by rw [hσ]; exact if_pos hj) hPX hDX).1
  have hS0 : va_P D vwCl [(uS.1 0, .inr (4, [.ref (uS.1 3), .ref (uS.1 1), .ref (uS.1 2)])), (uS.1 1, .inl (cA, 4, .inl (uS.2.2 33))), (uS.1 2, .inl (cA, 4, .inl (uS.2.2 34))), (uS.1 3, .inl (cR, 4, .inr (.inr (.inr (.inr (fun i => some (uS.1 (4 + i)))))))), (uS.1 4, .inl (cA, 40, .inl (uS.2.2 35))), (uS.1 5, .inl (cA, 40, .inl (uS.2.2 36))), (uS.1 6, .inl (cA, 40, .inl (uS.2.2 37))), (uS.1 7, .inl (cA, 40, .inl (uS.2.2 38)))] H := by
    have h1 := qn_Pl (qn_Pr (qn_Pr (qn_Pr hP1)))
    rw [qn_WS] at h1
    exact h1
  have hS1 := qn_set hS0 (k := 3) (g := fun i => some (α (44 + i))) rfl (fun i hi => by rw [hα]; rcases (show i = 0 ∨ i = 1 ∨ i = 2 ∨ i = 3 by omega) with rfl | rfl | rfl | rfl <;> rfl)
  have hS2 : va_P D vwCl [(uS.1 0, .inr (4, [.ref (uS.1 3), .ref (uS.1 1), .ref (uS.1 2)])), (uS.1 3, .inl (cR, 4, .inr (.inr (.inr (.inr (fun i => some (α (44 + i)))))))), (uS.1 1, .inl (cA, 4, .inl (uS.2.2 33))), (uS.1 2, .inl (cA, 4, .inl (uS.2.2 34))), (uS.1 4, .inl (cA, 40, .inl (uS.2.2 35))), (uS.1 5, .inl (cA, 40, .inl (uS.2.2 36))), (uS.1 6, .inl (cA, 40, .inl (uS.2.2 37))), (uS.1 7, .inl (cA, 40, .inl (uS.2.2 38)))] H := hS1.sub [0, 3, 1, 2, 4, 5, 6, 7] rfl
  have hP2 : va_P D vwCl (qn_wT cA t0 b0 ++ (qn_wT cA t1 b1 ++ (qn_wT cA t2 b2 ++ ([(uS.1 0, .inr (4, [.ref (uS.1 3), .ref (uS.1 1), .ref (uS.1 2)])), (uS.1 3, .inl (cR, 4, .inr (.inr (.inr (.inr (fun i => some (α (44 + i)))))))), (uS.1 1, .inl (cA, 4, .inl (uS.2.2 33))), (uS.1 2, .inl (cA, 4, .inl (uS.2.2 34))), (uS.1 4, .inl (cA, 40, .inl (uS.2.2 35))), (uS.1 5, .inl (cA, 40, .inl (uS.2.2 36))), (uS.1 6, .inl (cA, 40, .inl (uS.2.2 37))), (uS.1 7, .inl (cA, 40, .inl (uS.2.2 38)))] ++ (qn_wO cA o0 bo ++ (qn_wE s0 ++ (qn_wF cA f0 bf ++ [(h0, .inr (7, [.ref t0, .ref t1, .ref t2, .int 0, .ref (uT.1 4), .ref (uS.1 0), .ref o0, .ref s0, .ref f0]))]))))))) H :=
    (qn_Pl hP1).app ((qn_Pl (qn_Pr hP1)).app ((qn_Pl (qn_Pr (qn_Pr hP1))).app (hS2.app (qn_Pr (qn_Pr (qn_Pr (qn_Pr hP1)))))))
  have hP3 := qn_X8_P2 (A := A) eα eσ hP2
  refine ⟨?_, ?_, ?_⟩
  · show va_P D vwCl (qm_W α cA cR (qm_layT ++ qn_layC2) σ) H
    rw [qn_W_app]
    exact hPX2.app hP3
  · have hSp : va_D A (qm_W uT.1 cA cR qm_layT uT.2 ++ (qn_wT cA t0 b0 ++ (qn_wT cA t1 b1 ++ (qn_wT cA t2 b2 ++ ([(uS.1 0, .inr (4, [.ref (uS.1 3), .ref (uS.1 1), .ref (uS.1 2)])), (uS.1 3, .inl (cR, 4, .inr (.inr (.inr (.inr (fun i => some (uS.1 (4 + i)))))))), (uS.1 1, .inl (cA, 4, .inl (uS.2.2 33))), (uS.1 2, .inl (cA, 4, .inl (uS.2.2 34))), (uS.1 4, .inl (cA, 40, .inl (uS.2.2 35))), (uS.1 5, .inl (cA, 40, .inl (uS.2.2 36))), (uS.1 6, .inl (cA, 40, .inl (uS.2.2 37))), (uS.1 7, .inl (cA, 40, .inl (uS.2.2 38)))] ++ (qn_wO cA o0 bo ++ (qn_wE s0 ++ (qn_wF cA f0 bf ++ [(h0, .inr (7, [.ref t0, .ref t1, .ref t2, .int 0, .ref (uT.1 4), .ref (uS.1 0), .ref o0, .ref s0, .ref f0]))])))))))) := by
      rw [qn_WS] at hD
      refine qn_Dperm ?_ hD
      refine List.Perm.append_left _ (List.Perm.append_left _ (List.Perm.append_left _ (List.Perm.append_left _ (List.Perm.append_right _ ?_))))
      exact List.Perm.cons _ (((List.Perm.swap _ _ _).cons _).trans (List.Perm.swap _ _ _))
    refine qn_Dfst hSp ?_
    rw [qn_W_eq, qn_WT]
    obtain ⟨a4, a22, a23, a24, a25, a26, a27, a28, a29, a30, a31, a32, a33, a34, a35, a36, a37, a38, a39, a40, a41, a42, a43, a44, a45, a46, a47, a48, a49, a50, a51, a52, a53, a54⟩ := eα
    show [α 0, α 1, α 2, α 3, α 4, α 5, α 6, α 7, α 8, α 9, α 10, α 11, α 12, α 13, α 14, α 15, α 16, α 17, α 18, α 19, α 20, α 21, α 22, α 23, α 24, α 25, α 26, α 27, α 28, α 29, α 30, α 31, α 32, α 33, α 34, α 35, α 36, α 37, α 38, α 39, α 40, α 41, α 42, α 43, α 44, α 45, α 46, α 47, α 48, α 49, α 50, α 51, α 52, α 53, α 54] = [uT.1 0, uT.1 1, uT.1 2, uT.1 3, uT.1 4, uT.1 5, uT.1 6, uT.1 7, uT.1 8, uT.1 9, uT.1 10, uT.1 11, uT.1 12, uT.1 13, uT.1 14, uT.1 15, uT.1 16, uT.1 17, uT.1 18, uT.1 19, uT.1 20, uT.1 21, t0, b0 0, b0 1, b0 2, b0 3, b0 4, t1, b1 0, b1 1, b1 2, b1 3, b1 4, t2, b2 0, b2 1, b2 2, b2 3, b2 4, uS.1 0, uS.1 3, uS.1 1, uS.1 2, uS.1 4, uS.1 5, uS.1 6, uS.1 7, o0, bo 0, s0, f0, bf 0, bf 1, h0]
    rw [hlt 0 (by omega), hlt 1 (by omega), hlt 2 (by omega), hlt 3 (by omega), hlt 4 (by omega), hlt 5 (by omega), hlt 6 (by omega), hlt 7 (by omega), hlt 8 (by omega), hlt 9 (by omega), hlt 10 (by omega), hlt 11 (by omega), hlt 12 (by omega), hlt 13 (by omega), hlt 14 (by omega), hlt 15 (by omega), hlt 16 (by omega), hlt 17 (by omega), hlt 18 (by omega), hlt 19 (by omega), hlt 20 (by omega), hlt 21 (by omega), a22, a23, a24, a25, a26, a27, a28, a29, a30, a31, a32, a33, a34, a35, a36, a37, a38, a39, a40, a41, a42, a43, a44, a45, a46, a47, a48, a49, a50, a51, a52, a53, a54]
  · refine ⟨by rw [hα]; rfl, fun i => by rw [hα]; exact if_pos (by omega), by rw [hσ]; exact gT1, by rw [hσ]; exact gT2, fun p hp => by rw [hσ]; exact gT3 p hp, fun k hk => by rw [hσ]; exact gT4 k hk, fun i h1 h2 => by rw [hσ]; exact if_neg (by omega), fun j h1 h2 => by rw [hσ]; exact qn_gC_0 (by omega), fun i hi => by rw [hσ]; exact gS1 i hi, fun j h1 h2 i => ?_⟩
    rw [hσ]
    exact (congrFun (qn_gC_S (by omega)) i).trans (gS2 j h1 h2 i)

