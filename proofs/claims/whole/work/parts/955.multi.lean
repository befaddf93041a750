/-! ===== rows of rows, made at once ===== -/
theorem qn_D {A : Nat → Prop} {ws wn : va_W} {sz : Nat} (hD : va_D A ws) (hlt : ∀ (k : Nat) (x : Nat × va_E), ws[k]? = some x → x.1 < sz) (hge : ∀ (k : Nat) (x : Nat × va_E), wn[k]? = some x → x.1 = sz + k) (hA : ∀ q, sz ≤ q → A q) : va_D A (ws ++ wn) := by
  have key : ∀ (k : Nat) (x : Nat × va_E), (ws ++ wn)[k]? = some x → (ws[k]? = some x ∧ x.1 < sz) ∨ (ws.length ≤ k ∧ x.1 = sz + (k - ws.length)) := by
    intro k x hk
    by_cases hl : k < ws.length
    · rw [List.getElem?_append_left hl] at hk
      exact Or.inl ⟨hk, hlt k x hk⟩
    · rw [List.getElem?_append_right (by omega)] at hk
      exact Or.inr ⟨by omega, hge _ x hk⟩
  refine ⟨fun i j x y hi hj e => ?_, fun k x hk => ?_⟩
  · rcases key i x hi with ⟨a1, a2⟩ | ⟨a1, a2⟩
    · rcases key j y hj with ⟨b1, b2⟩ | ⟨b1, b2⟩
      · exact hD.1 i j x y a1 b1 e
      · omega
    · rcases key j y hj with ⟨b1, b2⟩ | ⟨b1, b2⟩
      · omega
      · omega
  · rcases key k x hk with ⟨a1, -⟩ | ⟨-, a2⟩
    · exact hD.2 k x a1
    · exact hA _ (by omega)
def qn_out (cR : ClassId) (N q : Nat) : Nat × va_E := (q, .inl (cR, N, .inr (.inr (.inr (.inr (fun i => some (q + 1 + i)))))))
def qn_in (cA : ClassId) (N M q : Nat) : va_W := (List.range N).map fun i => (q + 1 + i, .inl (cA, M, .inl (fun _ => 0)))
theorem qn_arrV {cO : ClassId} {N : Nat} {f g : Nat → Value} (h : ∀ j, j < N → f j = g j) : arrV cO N f = arrV cO N g := by
  have e : (fun j : Fin N => f j.val) = fun j : Fin N => g j.val := funext fun j => h j.val j.isLt
  unfold arrV
  rw [e]
theorem qn_outI (cO : ClassId) (N h0 : Nat) : ∀ i, Jvm.Free.Multi.outerC cO N h0 i = arrV cO N (fun j => if j < i then .ref (h0 + 1 + j) else .null)
  | 0 => (arrV_new cO N .null).trans (qn_arrV fun j _ => by rw [if_neg (Nat.not_lt_zero j)])
  | i + 1 => by
    show (Jvm.Free.Multi.outerC cO N h0 i).setSlot i (.ref (h0 + 1 + i)) = _
    rw [qn_outI cO N h0 i, arrV_store]
    refine qn_arrV fun j _ => ?_
    by_cases e : j = i
    · subst e
      rw [if_pos (Nat.lt_succ_self j)]
      simp [updV]
    · simp only [updV, e, if_false]
      by_cases hj : j < i
      · rw [if_pos hj, if_pos (by omega)]
      · rw [if_neg hj, if_neg (by omega)]
theorem qn_outer (cO : ClassId) (N h0 : Nat) : Jvm.Free.Multi.outerC cO N h0 N = arrV cO N (fun j => .ref (h0 + 1 + j)) := (qn_outI cO N h0 N).trans (qn_arrV fun j hj => if_pos hj)
section QM
variable {p : Program} {l : Launch} {e : Env} {R : Room} {s : State} {m : MethodId} {args : Array Value} {below : List Frame} {meth : Method} {c : Code} {cc : ByteArray} {D : va_G} {cl : List vw_C} {cA cR : ClassId} {ws : va_W} {A : Nat → Prop} {H0 H : Heap} {locs : List Loc} {cells slots : Nat} {Q : State → Prop} {pc : Nat} {ls : Array Slot} {rest : List Value}
theorem qn_multi (hx : p.tables.exec = Jvm.exec) (hb : c.code = cc) {own : String} {index : Nat} (hown : s.vm.findClass own = some m.cls) (hcl : (Cond.classLink own index ("[" ++ (FieldType.array .int).toString)).before args s = true) (hov : (Cond.arrayOver (.array .int)).before args s = true) (harr : (Cond.arrayClass .int).before args s = true) (hK : va_K D cl (qm_ty cA cR) s) (hP : va_P D cl ws H) (hD : va_D A ws) (hS : va_S A H0 H locs) (hA : ∀ q, H0.size ≤ q → A q) {n k : Int32} {N M : Nat} (hn : ¬ n < 0) (hk : ¬ k < 0) (hN : n.toNatClampNeg = N) (hM : k.toNatClampNeg = M) (hb1 : N * 4 ≤ 536870912) (hb2 : M * 4 ≤ 536870912) (hb3 : M ≤ 536870912) (hcells : cells + (1 + N) ≤ R.cells) (hslots : slots + (N + N * M) ≤ R.slots) (hdg : decode cc pc = .ok (.multianewarray index 2, 4))
    (kk : ∀ (q : Nat) (H1 : Heap), va_P D cl (ws ++ (qn_out cR N q :: qn_in cA N M q)) H1 → va_D A (ws ++ (qn_out cR N q :: qn_in cA N M q)) → va_S A H0 H1 locs → W p l e R s m args below meth c H1 locs (cells + 1 + N) (slots + N + N * M) Q (F0 m (pc + 4) ls (.ref q :: rest))) : W p l e R s m args below meth c H locs cells slots Q (F0 m pc ls (.int k :: .int n :: rest)) := by
  intro T hT X
  subst hT; subst hb; subst hN; subst hM
  obtain ⟨vm₁, cO, comp, hW, hfA, hfC, hO, hI, X1, step⟩ := X.multianewarray2F hx (ty := .int) hown hcl hov harr (g := F0 m pc ls (.int k :: .int n :: rest)) rfl hdg rfl hn hk hb1 hb2 hb3 rfl rfl hcells hslots
  have eA : comp = cA := Option.some.inj (hfC.symm.trans (hK.2 0 _ rfl).2)
  have eR : cO = cR := Option.some.inj (hfA.symm.trans (hK.2 1 _ rfl).2)
  subst eA; subst eR
  have e0 : (T.setVm vm₁).heap = T.heap := rfl
  obtain ⟨f1, f2, -, -⟩ := Jvm.Free.Multi.fill_facts (T.setVm vm₁) cO comp n.toNatClampNeg k.toNatClampNeg (defaultValue .int) n.toNatClampNeg
  rw [e0] at f1 f2
  have hold : ∀ a, a < T.heap.size → (Jvm.Free.Multi.fill (T.setVm vm₁) cO comp n.toNatClampNeg k.toNatClampNeg (defaultValue .int) n.toNatClampNeg).heap[a]? = T.heap[a]? := fun a ha => Jvm.Free.Multi.fill_old (T.setVm vm₁) cO comp n.toNatClampNeg k.toNatClampNeg (defaultValue .int) ha n.toNatClampNeg
  have hin : ∀ j, j < n.toNatClampNeg → (Jvm.Free.Multi.fill (T.setVm vm₁) cO comp n.toNatClampNeg k.toNatClampNeg (defaultValue .int) n.toNatClampNeg).heap[T.heap.size + 1 + j]? = some (Jvm.Free.Multi.innerC comp k.toNatClampNeg (defaultValue .int)) := fun j hj => Jvm.Free.Multi.fill_inner (T.setVm vm₁) cO comp n.toNatClampNeg k.toNatClampNeg (defaultValue .int) n.toNatClampNeg j hj
  have eo : Jvm.Free.Multi.outerC cO n.toNatClampNeg T.heap.size n.toNatClampNeg = arrV cO n.toNatClampNeg (fun j => .ref (T.heap.size + 1 + j)) := qn_outer _ _ _
  have ei : Jvm.Free.Multi.innerC comp k.toNatClampNeg (defaultValue .int) = arrV comp k.toNatClampNeg (fun _ => .int 0) := arrV_new comp k.toNatClampNeg (.int 0)
  have hwn : ∀ (j : Nat) (x : Nat × va_E), (qn_out cO n.toNatClampNeg T.heap.size :: qn_in comp n.toNatClampNeg k.toNatClampNeg T.heap.size)[j]? = some x → x.1 = T.heap.size + j ∧ va_at D cl x (Jvm.Free.Multi.fill (T.setVm vm₁) cO comp n.toNatClampNeg k.toNatClampNeg (defaultValue .int) n.toNatClampNeg).heap := by
    intro j x hj
    cases j with
    | zero =>
      have ex : qn_out cO n.toNatClampNeg T.heap.size = x := Option.some.inj hj
      subst ex
      exact ⟨rfl, f2.trans (congrArg some eo)⟩
    | succ j =>
      have hj2 : (qn_in comp n.toNatClampNeg k.toNatClampNeg T.heap.size)[j]? = some x := hj
      have hjn : j < n.toNatClampNeg := by
        have := (List.getElem?_eq_some_iff.mp hj2).1
        simpa [qn_in] using this
      have ex : ((T.heap.size + 1 + j, .inl (comp, k.toNatClampNeg, .inl (fun _ => 0))) : Nat × va_E) = x := by
        have : (qn_in comp n.toNatClampNeg k.toNatClampNeg T.heap.size)[j]? = some (T.heap.size + 1 + j, .inl (comp, k.toNatClampNeg, .inl (fun _ => 0))) := by
          simp [qn_in, hjn]
        exact Option.some.inj (this.symm.trans hj2)
      subst ex
      exact ⟨by show T.heap.size + 1 + j = T.heap.size + (j + 1); omega, (hin j hjn).trans (congrArg some ei)⟩
  have hlt : ∀ (q : Nat) (x : Nat × va_E), ws[q]? = some x → x.1 < T.heap.size := fun q x hq => (hP q x hq).lt
  obtain ⟨t, a1, b1⟩ := kk T.heap.size (Jvm.Free.Multi.fill (T.setVm vm₁) cO comp n.toNatClampNeg k.toNatClampNeg (defaultValue .int) n.toNatClampNeg).heap ((hP.kept fun q x hq => hold x.1 (hlt q x hq)).app fun j x hj => (hwn j x hj).2) (qn_D hD hlt (fun j x hj => (hwn j x hj).1) fun q hq => hA q (Nat.le_trans hS.1 hq)) ⟨by have := hS.1; omega, fun a h1 h2 => (hold a (Nat.lt_of_lt_of_le h1 hS.1)).trans (hS.2.1 a h1 h2), hS.2.2⟩ _ rfl X1
  exact ⟨t, step t a1, b1⟩
end QM
