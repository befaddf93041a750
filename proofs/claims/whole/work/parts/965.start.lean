/-! ===== a constructor that has all the world ===== -/
section QNA
variable {p : Program} {l : Launch} {e : Env} {R : Room} {s : State} {m : MethodId} {args : Array Value} {below : List Frame} {meth : Method} {c : Code} {H : Heap} {locs : List Loc} {cells slots : Nat} {Q : State → Prop} {cc : ByteArray} {pc nL : Nat} {ls : Array Slot} {rest : List Value} {A : Nat → Prop} {mc ms maxL index : Nat} {S : Type} {post : S → Prop} {wc : S → va_W} {D : va_G} {cA cR : ClassId} {ws : va_W} {q : Nat} {own : String} {y : MethodName} {bytes : ByteArray} {rm : Room}
theorem qn_ctorA (hx : p.tables.exec = Jvm.exec) (hb : c.code = cc) (hml : c.maxLocals = nL) (hown : s.vm.findClass own = some m.cls) (hts : ∀ w ∈ qm_G, w.before args s = true) {β : Nat → Nat}
    (hM : ∀ sz, Met l y (Cond.code y bytes maxL none :: qm_G) rm (va_Pc [.ref q] (fun U => U.heap.size = sz ∧ va_P D vwCl ws U.heap ∧ va_K D vwCl (qm_ty cA cR) U ∧ va_D (fun _ => True) ws ∧ qm_E β (va_A ws sz) U U.heap)) (va_Qv post (fun u U => va_P D vwCl (wc u) U.heap ∧ va_K D vwCl (qm_ty cA cR) U ∧ va_D (va_A ws sz) (wc u)) (va_A ws sz)) mc ms (va_A ws sz))
    (hrc : rm.cells = mc ∧ rm.slots = ms) (hrf : rm.frames + 1 ≤ R.frames ∧ 8 + (maxL + 11) + rm.locals ≤ R.locals)
    (o1 : Cond.code y bytes maxL none ∈ qm_G) (o3 : Cond.initialized y.cls ∈ qm_G) (o5 : y.cls ≠ "java/lang/invoke/MethodHandle" ∧ y.cls ≠ "java/lang/invoke/VarHandle") (o6 : (parseMethodDescriptor y.desc).map (fun d => d.parameters.length) = some 0) (oi : Cond.methodLink own index y ∈ qm_G) (oin : Cond.instanceMethod y ∈ qm_G) (hy1 : y.name = "<init>")
    (hsize : ls.size = nL) (hW : (rest.map fun v => v.category).sum ≤ 8) (hdg : decode cc pc = .ok (.invokespecial index, 3)) (hf : cells + mc ≤ R.cells ∧ slots + ms ≤ R.slots)
    (hE : qm_E β A s s.heap)
    (hK : va_K D vwCl (qm_ty cA cR) s) (hP : va_P D vwCl ws H) (hD : va_D A ws) (hS : va_S A s.heap H locs) (hA : ∀ q, s.heap.size ≤ q → A q)
    (kk : ∀ (u : S) (H1 : Heap) (locs1 : List Loc), post u → va_P D vwCl (wc u) H1 → va_D A (wc u) → va_S A s.heap H1 locs1 → W p l e R s m args below meth c H1 locs1 (cells + mc) (slots + ms) Q (F0 m (pc + 3) ls rest)) :
    W p l e R s m args below meth c H locs cells slots Q (F0 m pc ls (.ref q :: rest)) := by
  have hFc : ∀ x, va_A ws H.size x → A x := fun x h => by
    rcases h with ⟨k, e, h⟩ | h
    · exact hD.2 k (x, e) h
    · exact hA x (Nat.le_trans hS.1 h)
  refine va_callv (va_runI (As := []) (rest := rest) ⟨hx, hb, hml, hown, hts⟩ (hM H.size)
    ⟨⟨hrc.1, hrc.2, hrf.1, hrf.2, qn_pay hts o1, List.mem_cons_self, hts _ o1, hts _ o3, o5, fun sig hs => by rw [hs] at o6; exact (Option.some.inj o6).symm, hts _ oi⟩, hy1, hts _ oin⟩
    ⟨fun a U g mk q => by obtain ⟨q0, q1, qP, qK, qD, qE⟩ := q; exact ⟨q0, q1, qP, va_K.moved (u := U) (U := U.calling g mk a) (Vm.Alike.refl U.vm) qK, qD, qE.calling⟩, fun U hU hW => ⟨rfl, by rw [hU], by rw [hU]; exact hP, va_K.moved hW.alike hK, hD.weaken (fun _ _ _ _ => trivial), by rw [← hU] at hS hFc ⊢; exact hE.to hS hW rfl hFc⟩⟩
    rfl rfl hsize rfl (by show 2 * 0 + _ ≤ 8; omega) hdg hf) hS (fun x _ h => hFc x h) hFc (fun u t H1 locs1 ht hvm h5 hB hz1 hk1 hS1 => ?_)
  obtain ⟨hP1, hK1, hD1⟩ := hB
  rw [ht] at hP1
  exact kk u H1 locs1 h5 hP1 (hD1.weaken (fun _ _ _ h => hFc _ h)) hS1
end QNA
/-! ===== what the law's start gives ===== -/
theorem qn_use {X : List Cond} {args : Array Value} {s : State} (hs : ∀ w ∈ X, w.before args s = true) {n : Nat} (f : Nat → Cond) (h : ∀ i, i < n → f i ∈ X) : ∀ i, i < n → (f i).before args s = true := fun i hi => hs _ (h i hi)
theorem qn_use2 {X : List Cond} {args : Array Value} {s : State} (hs : ∀ w ∈ X, w.before args s = true) {n : Nat} (k : Nat → Nat) (f : Nat → Nat → Cond) (h : ∀ i, i < n → ∀ j, j < k i → f i j ∈ X) : ∀ i, i < n → ∀ j, j < k i → (f i j).before args s = true := fun i hi j hj => hs _ (h i hi j hj)
def qn_tm (i : Nat) : Term := .string (qm_so i) (qm_si i)
def qn_sk (i : Nat) : Nat := if i = 0 then 200 else 277 + i
set_option maxRecDepth 100000 in
theorem qn_srefs : ∀ i, i < 13 → lw_tbl[qn_sk i]? = some (Cond.stringRef (qm_so i) (qm_si i) (qm_st i)) := by decide +kernel
set_option maxHeartbeats 2000000 in
set_option maxRecDepth 100000 in
theorem qn_E0 {s : State} {b : Nat} (hts : ∀ w ∈ lw_tbl, w.before #[Value.ref b] s = true) (hgv : (Jvm.Cond.and given_1 narrow_1).before #[Value.ref b] s = true) : ∃ β : Nat → Nat, qm_E β (fun q => s.heap.size ≤ q) s s.heap := by
  have hs := flat_of_before _ hgv
  have hA : ∀ a : Nat, a < s.heap.size → ¬ (fun q : Nat => s.heap.size ≤ q) a := fun a h => Nat.not_le.mpr h
  have h1 := qn_use hs (n := 13) (fun i => Cond.exactly (qn_tm i) "java/lang/String") (by decide +kernel)
  have h2 := qn_use hs (n := 13) (fun i => Cond.eq (.field (qn_tm i) "java/lang/String" "coder" "B") (.int 0)) (by decide +kernel)
  have h3 := qn_use hs (n := 13) (fun i => Cond.arrayOf (.field (qn_tm i) "java/lang/String" "value" "[B") .byte) (by decide +kernel)
  have h4 := qn_use hs (n := 13) (fun i => Cond.eq (.length (.field (qn_tm i) "java/lang/String" "value" "[B")) (.int (Int32.ofNat (qm_sl.getD i 0)))) (by decide +kernel)
  have h5 := qn_use2 hs (n := 13) (fun i => qm_sl.getD i 0) (fun i j => Cond.eq (.elem (.field (qn_tm i) "java/lang/String" "value" "[B") (.int (Int32.ofNat j))) (.int ((qm_str.getD i []).getD j 0))) (by decide +kernel)
  have h7 := qn_use2 hs (n := 13) (fun j => j) (fun j i => Cond.not (Cond.eq (qn_tm i) (qn_tm j))) (by decide +kernel)
  have h6 : ∀ i j : Nat, i < 13 → j < 13 → i ≠ j → (Cond.not (Cond.eq (qn_tm i) (qn_tm j))).before #[Value.ref b] s = true ∨ (Cond.not (Cond.eq (qn_tm j) (qn_tm i))).before #[Value.ref b] s = true := fun i j hi hj e => by
    by_cases h : i < j
    · exact Or.inl (h7 j hj i h)
    · exact Or.inr (h7 i hi j (by omega))
  obtain ⟨adK, adV, hV, hev⟩ := vk_Sof (N := 13) (tm := qn_tm) (len := qm_sl) (byt := qm_str) (A := fun q => s.heap.size ≤ q) (by decide +kernel) h1 h2 h3 h4 h5 h6 hA
  have e : (fun i => (fun k => adK (k - 1000)) (1000 + i)) = adK := funext fun i => by show adK (1000 + i - 1000) = _; rw [Nat.add_sub_cancel_left]
  refine ⟨fun k => adK (k - 1000), ⟨adV, by rw [e]; exact hV⟩, ?_, ?_, fun i hi => ?_⟩
  · exact va_Zof (hts _ (List.mem_of_getElem? (i := 210) (by decide +kernel))) (hts _ (List.mem_of_getElem? (i := 77) (by decide +kernel))) (va_eqi (hs (Cond.eq (.static "java/lang/String" "COMPACT_STRINGS" "Z") (.int 1)) (by decide +kernel))) hA
  · exact va_Zqof (hts _ (List.mem_of_getElem? (i := 226) (by decide +kernel))) (hts _ (List.mem_of_getElem? (i := 79) (by decide +kernel))) (hs (Cond.isRef (.static "jdk/internal/util/Preconditions" "SIOOBE_FORMATTER" "Ljava/util/function/BiFunction;")) (by decide +kernel)) hA
  · refine vk_R.of (hts _ (List.mem_of_getElem? (qn_srefs i hi))) ?_
    have h := hev i hi
    show (Term.string (qm_so i) (qm_si i)).eval _ s none [] s = some (.ref (adK (1000 + i - 1000)))
    rw [Nat.add_sub_cancel_left]
    exact h
theorem qn_nx0 {s : State} {b : Nat} (hts : ∀ w ∈ lw_tbl, w.before #[Value.ref b] s = true) : qn_nx s := by
  have hov : (Cond.arrayOver (.array .int)).before #[Value.ref b] s = true := hts _ (List.mem_of_getElem? (i := 199) (by decide +kernel))
  refine ⟨fun a => hov, fun q hq => ?_⟩
  have hm : ∀ q ∈ qn_nest, (Cond.methodLinkNest q.1 q.2.1 q.2.2 "FirstColour") ∈ lw_tbl := by decide +kernel
  exact va_Nw.of rfl (hts _ (hm q hq))
