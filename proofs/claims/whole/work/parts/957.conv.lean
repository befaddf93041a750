/-! ===== worlds in another's words ===== -/
theorem qn_imp {p : Program} {l : Launch} {e : Env} {R : Room} {s : State} {m : MethodId} {args : Array Value} {below : List Frame} {meth : Method} {c : Code} {H : Heap} {locs : List Loc} {cells slots : Nat} {Q Q' : State → Prop} {g : JFrame} (h : W p l e R s m args below meth c H locs cells slots Q g) (hq : ∀ t, Q t → Q' t) : W p l e R s m args below meth c H locs cells slots Q' g := fun T hT X => by
  obtain ⟨t, a, b⟩ := h T hT X
  exact ⟨t, a, hq t b⟩
/-- a row of references counts as far as it goes -/
theorem qn_refs {D : va_G} {cl : List vw_C} {q : Nat} {cR : ClassId} {n : Nat} {f g : Nat → Option Nat} {H : Heap} (hfg : ∀ i, i < n → f i = g i) (h : va_at D cl (q, .inl (cR, n, .inr (.inr (.inr (.inr f))))) H) : va_at D cl (q, .inl (cR, n, .inr (.inr (.inr (.inr g))))) H := by
  have h1 : H[q]? = some (vp_cell cR (n, .inr (.inr (.inr (.inr f))))) := h
  show H[q]? = some (vp_cell cR (n, .inr (.inr (.inr (.inr g)))))
  rw [h1, vp_cell_q, vp_cell_q]
  exact congrArg some (qn_arrV fun j hj => by rw [hfg j hj])
theorem qn_set {D : va_G} {cl : List vw_C} {ws : va_W} {H : Heap} (hP : va_P D cl ws H) {k : Nat} {q : Nat} {cR : ClassId} {n : Nat} {f g : Nat → Option Nat} (he : ws[k]? = some (q, .inl (cR, n, .inr (.inr (.inr (.inr f)))))) (hfg : ∀ i, i < n → f i = g i) : va_P D cl (ws.set k (q, .inl (cR, n, .inr (.inr (.inr (.inr g)))))) H := fun j x hj => by
  by_cases e : k = j
  · subst e
    rw [List.getElem?_set_self ((List.getElem?_eq_some_iff.mp he).1)] at hj
    cases hj
    exact qn_refs hfg (hP k _ he)
  · rw [List.getElem?_set_ne e] at hj
    exact hP j x hj
/-- the other way: a world of the machine's, met cell by cell -/
theorem qn_to {D : va_G} {cl : List vw_C} {ws ws' : va_W} {H : Heap} (hP : va_P D cl ws H) (hl : ∀ (k : Nat) (x : Nat × va_E), ws'[k]? = some x → ∃ (j : Nat) (y : Nat × va_E), ws[j]? = some y ∧ (va_at D cl y H → va_at D cl x H)) : va_P D cl ws' H := fun k x hk => by
  obtain ⟨j, y, h1, h2⟩ := hl k x hk
  exact h2 (hP j y h1)
def qn_layS : List qm_LE := [.inl (4, [.inr 3, .inr 1, .inr 2]), .inr (.inl (4, 33)), .inr (.inl (4, 34)), .inr (.inr (4, 4)), .inr (.inl (40, 35)), .inr (.inl (40, 36)), .inr (.inl (40, 37)), .inr (.inl (40, 38))]
/-- a layout's slots and rows, each in one place: a check -/
def qn_sl (lay : List qm_LE) (a i : Nat) : Option Nat := match lay[a]? with
  | some (.inl (_, fs)) => (match fs[i]? with
    | some (.inl s) => some s
    | _ => none)
  | _ => none
def qn_rj (lay : List qm_LE) (a : Nat) : Option Nat := match lay[a]? with
  | some (.inr (.inl (_, j))) => some j
  | _ => none
def qn_fl (lay : List qm_LE) (a : Nat) : Nat := match lay[a]? with
  | some (.inl (_, fs)) => fs.length
  | _ => 0
theorem qn_wf_of {lay : List qm_LE} (I : Nat) (h0 : ∀ a, a < lay.length → qn_fl lay a ≤ I) (h1 : ((List.range lay.length).all fun a => (List.range lay.length).all fun b => (List.range I).all fun i => (List.range I).all fun j => !(decide (qn_sl lay a i = qn_sl lay b j) && (qn_sl lay a i).isSome) || (decide (a = b) && decide (i = j))) = true) (h2 : ∀ a, a < lay.length → ∀ b, b < lay.length → qn_rj lay a = qn_rj lay b → (qn_rj lay a).isSome = true → a = b) : qm_wf lay := by
  have lt : ∀ (a : Nat) (x : qm_LE), lay[a]? = some x → a < lay.length := fun a x h => (List.getElem?_eq_some_iff.mp h).1
  refine ⟨fun a b ci cj fs gs i j s ha hb hi hj => ?_, fun a b n m j ha hb => ?_⟩
  · have ea : qn_sl lay a i = some s := by unfold qn_sl; rw [ha]; dsimp only; rw [hi]
    have eb : qn_sl lay b j = some s := by unfold qn_sl; rw [hb]; dsimp only; rw [hj]
    have fa : qn_fl lay a = fs.length := by unfold qn_fl; rw [ha]
    have fb : qn_fl lay b = gs.length := by unfold qn_fl; rw [hb]
    have la := h0 a (lt _ _ ha)
    have lb := h0 b (lt _ _ hb)
    have li := (List.getElem?_eq_some_iff.mp hi).1
    have lj := (List.getElem?_eq_some_iff.mp hj).1
    have k := List.all_eq_true.mp (List.all_eq_true.mp (List.all_eq_true.mp (List.all_eq_true.mp h1 a (List.mem_range.mpr (lt _ _ ha))) b (List.mem_range.mpr (lt _ _ hb))) i (List.mem_range.mpr (by omega))) j (List.mem_range.mpr (by omega))
    rw [ea, eb] at k
    simpa using k
  · have ea : qn_rj lay a = some j := by unfold qn_rj; rw [ha]
    have eb : qn_rj lay b = some j := by unfold qn_rj; rw [hb]
    exact h2 a (lt _ _ ha) b (lt _ _ hb) (ea.trans eb.symm) (by rw [ea]; rfl)
theorem qn_wfS : qm_wf qn_layS := qn_wf_of 3 (by decide +kernel) (by decide +kernel) (by decide +kernel)
theorem qn_WS (α : Nat → Nat) (cA cR : ClassId) (σ : qm_St) : qm_W α cA cR qn_layS σ = [(α 0, .inr (4, [.ref (α 3), .ref (α 1), .ref (α 2)])), (α 1, .inl (cA, 4, .inl (σ.2 33))), (α 2, .inl (cA, 4, .inl (σ.2 34))), (α 3, .inl (cR, 4, .inr (.inr (.inr (.inr (fun i => some (α (4 + i)))))))), (α 4, .inl (cA, 40, .inl (σ.2 35))), (α 5, .inl (cA, 40, .inl (σ.2 36))), (α 6, .inl (cA, 40, .inl (σ.2 37))), (α 7, .inl (cA, 40, .inl (σ.2 38)))] := rfl
def mX5_init : qm_MI := (yX5_init, cX5_init, 1, none, 4, 0)
theorem qn_mokS : qm_mok qm_G qm_cnm mX5_init := ⟨by decide +kernel, rfl, by decide⟩
theorem qn_fillS {σ : qm_St} : ∃ τ, Ex qn_layS 1 mX5_init 29 [some (.ref 0)] [] σ none τ ∧ sm σ τ 0 0 34 35 ∧ ∀ i, i < 4 → qm_rF τ 34 i = -1 := by
  obtain ⟨τ, hO, hs, hv⟩ := c_fill (lay := qn_layS) (σ := σ) (p := 2) (n := 4) (j := 34) rfl (by decide) (-1)
  refine ⟨τ, ?_, hs, hv⟩
  refine ex_aload_n dX5_init_29 rfl rfl ?_
  refine ex_getR (b := 2) dX5_init_30 rfl qp_4_20 rfl rfl ?_
  refine ex_iconst (x := (-1)) dX5_init_33 rfl rfl ?_
  refine ex_callS (rest := []) dX5_init_34 rfl qp_4_23 rfl rfl rfl (Nat.le_of_ble_eq_true rfl) (hO) (Nat.le_of_ble_eq_true rfl) ?_
  show Ex qn_layS _ mX5_init 37 [some (.ref 0)] [] τ _ _
  exact ex_vret dX5_init_37 rfl rfl rfl
