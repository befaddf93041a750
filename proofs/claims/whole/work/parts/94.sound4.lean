/-! ===== calls, and the whole run of a method ===== -/
def qm_ws (G : List Cond) (mi : qm_MI) : List Cond := Cond.code mi.1 mi.2.1 mi.2.2.1 mi.2.2.2.1 :: G
/-- a method's start -/
def qm_B (α : Nat → Nat) (cA cR : ClassId) (lay : List qm_LE) (D : va_G) (sz : Nat) (σ : qm_St) (U : State) : Prop :=
  U.heap.size = sz ∧ va_P D vwCl (qm_W α cA cR lay σ) U.heap ∧ va_K D vwCl (qm_ty cA cR) U ∧ va_D (fun _ => True) (qm_W α cA cR lay σ) ∧ qm_E α (va_A (qm_W α cA cR lay σ) sz) U U.heap
theorem qm_B_blind {α : Nat → Nat} {cA cR : ClassId} {lay : List qm_LE} {D : va_G} {sz : Nat} {σ : qm_St} {as : List Value} : FrameBlind (va_Pc as (qm_B α cA cR lay D sz σ)) := fun a U g mk q => by
  obtain ⟨q0, q1, qP, qK, qD, qE⟩ := q
  exact ⟨q0, q1, qP, va_K.moved (u := U) (U := U.calling g mk a) (Vm.Alike.refl U.vm) qK, qD, qE.calling⟩
theorem qm_sl_len (α : Nat → Nat) (as : List Value) : (lg_sl (as.map (qm_rl α))).length = (qm_fl as).length := by
  induction as with
  | nil => rfl
  | cons v vs ih =>
    simp only [lg_sl, qm_fl, List.map_cons, List.flatMap_cons, List.length_append] at ih ⊢
    rw [ih, qm_rl_cat]
    split <;> rfl
theorem qm_fl_args (α : Nat → Nat) (as : List Value) : ∀ (k i : Nat) (v : Value), (qm_fl as)[i]? = some (some v) → (k + i, qm_rl α v) ∈ lv_args k (as.map (qm_rl α)) := by
  induction as with
  | nil => intro k i v h; simp [qm_fl] at h
  | cons w vs ih =>
    intro k i v h
    have e : qm_fl (w :: vs) = (if w.category = 2 then [some w, none] else [some w]) ++ qm_fl vs := by simp [qm_fl]
    rw [e] at h
    rw [List.map_cons, lv_args, qm_rl_cat]
    by_cases hc : w.category = 2
    · rw [if_pos hc] at h ⊢
      match i, h with
      | 0, h => simp at h; subst h; exact List.mem_cons_self
      | 1, h => simp at h
      | i + 2, h =>
        have h2 : (qm_fl vs)[i]? = some (some v) := by simpa using h
        have := ih (k + 2) i v h2
        rw [show k + (i + 2) = k + 2 + i by omega]
        exact List.mem_cons_of_mem _ this
    · rw [if_neg hc] at h ⊢
      match i, h with
      | 0, h => simp at h; subst h; exact List.mem_cons_self
      | i + 1, h =>
        have h2 : (qm_fl vs)[i]? = some (some v) := by simpa using h
        have := ih (k + 1) i v h2
        rw [show k + (i + 1) = k + 1 + i by omega]
        exact List.mem_cons_of_mem _ this
theorem qm_ent_lok (α : Nat → Nat) (as : List Value) {n : Nat} (h : (qm_fl as).length ≤ n) : qm_lok α ((lg_sl (as.map (qm_rl α)) ++ List.replicate (n - (lg_sl (as.map (qm_rl α))).length) Slot.unset).toArray) n (qm_ent as n) := by
  have h0 := lv_entry (as.map (qm_rl α)) (n := n) (by rw [qm_sl_len]; exact h)
  refine ⟨h0.1, by simp [qm_ent]; omega, h0.2.1, fun i v hi => ?_⟩
  unfold qm_ent at hi
  rcases Nat.lt_or_ge i (qm_fl as).length with q | q
  · rw [List.getElem?_append_left q] at hi
    have := qm_fl_args α as 0 i v hi
    rw [Nat.zero_add] at this
    exact h0.2.2 _ this
  · rw [List.getElem?_append_right q, List.getElem?_replicate] at hi
    split at hi <;> cases hi
section QMX
variable {pool : Nat → Nat → Option qm_PE} {lay : List qm_LE} {G : List Cond} {cnm : Nat → String}
/-- what holds of a method all the way -/
def qm_mok (G : List Cond) (cnm : Nat → String) (mi : qm_MI) : Prop := plainName mi.1.cls = true ∧ mi.1.cls = cnm mi.2.2.2.2.1 ∧ mi.2.2.1 ≤ 40
def qm_poolOK (pool : Nat → Nat → Option qm_PE) (G : List Cond) (cnm : Nat → String) : Prop := ∀ oc i z, pool oc i = some z → qm_peOK G cnm (cnm oc) i z
def qm_goodG (G : List Cond) : Prop := ∀ w ∈ G, (w.onTables && w.keeps) = true ∨ ∃ ty, w = Cond.arrayClass ty
/-- the walk of a method from anywhere in it -/
def qm_Walk (pool : Nat → Nat → Option qm_PE) (lay : List qm_LE) (G : List Cond) (cnm : Nat → String) (n : Nat) : Prop :=
  ∀ (d : Nat) (mi : qm_MI) (pc : Nat) (ls : qm_LS) (st : List Value) (σ : qm_St) (v : Option Value) (τ : qm_St), qm_X pool lay n d mi pc ls st σ = some (v, τ) → qm_mok G cnm mi →
  ∀ (p : Program) (l : Launch) (e : Env) (s : State) (m : MethodId) (args : Array Value) (below : List Frame) (meth : Method) (c : Code) (H : Heap) (locs : List Loc) (LS : Array Slot) (A : Nat → Prop) (α : Nat → Nat) (cA cR : ClassId) (D : va_G),
    p.tables.exec = Jvm.exec → c.code = mi.2.1 → c.maxLocals = mi.2.2.1 → meth.sig.returnType = mi.2.2.2.1 → meth.locks = false → s.vm.findClass mi.1.cls = some m.cls → (∀ w ∈ G, w.before args s = true) →
    va_K D vwCl (qm_ty cA cR) s → va_P D vwCl (qm_W α cA cR lay σ) H → va_D A (qm_W α cA cR lay σ) → va_S A s.heap H locs → (∀ q, s.heap.size ≤ q → A q) → qm_lok α LS mi.2.2.1 ls → qm_E α A s s.heap →
    W p l e (qm_rm (d + 5)) s m args below meth c H locs 0 0 (MQ below (qm_Qc α cA cR lay D A v τ) args s 0 0 A) (F0 m pc LS (st.map (qm_rl α)))
theorem qm_Met_of {n : Nat} (hW : qm_Walk pool lay G cnm n) {d : Nat} {mi : qm_MI} {as : List Value} {σ τ : qm_St} {v : Option Value} (h : qm_X pool lay n d mi 0 (qm_ent as mi.2.2.1) [] σ = some (v, τ)) (hm : qm_mok G cnm mi) (hfl : (qm_fl as).length ≤ mi.2.2.1)
    (l : Launch) (α : Nat → Nat) (cA cR : ClassId) (D : va_G) (sz : Nat) :
    Met l mi.1 (qm_ws G mi) (qm_rm (d + 5)) (va_Pc (as.map (qm_rl α)) (qm_B α cA cR lay D sz σ)) (qm_Qc α cA cR lay D (va_A (qm_W α cA cR lay σ) sz) v τ) 0 0 (va_A (qm_W α cA cR lay σ) sz) := by
  refine Met.ofW (cc := mi.2.1) (maxL := mi.2.2.1) (ret := mi.2.2.2.1) hm.1 rfl ?_
  intro p e s m args below meth c s₁ B hml hv
  obtain ⟨rfl, hsz, hP, hK, hD0, hE⟩ := hv
  have hts := atoms_spec (ws := qm_ws G mi) B.pre
  have hown : s.vm.findClass mi.1.cls = some m.cls := findClass_of_methodNamed B.named
  subst hsz
  rw [lg_entry_eq]
  exact hW d mi 0 _ [] σ v τ h hm p l e s m _ below meth c s.heap [] _ _ α cA cR D B.exec B.bytes hml B.returns B.notSynchronized hown (fun w hw => hts w (List.mem_cons_of_mem _ hw)) hK hP (hD0.self (sz := s.heap.size)) va_S.rf (fun q hq => Or.inr hq) (qm_ent_lok α as hfl) hE
theorem qm_call_inv {po : Nat → Option qm_PE} {ins : Instr} {st : List Value} {mj : qm_MI} {as rest : List Value} (h : qm_call lay po ins st = some (mj, as, rest)) :
    (∃ i, ins = .invokestatic i ∧ po i = some (.inr (.inl (true, mj))) ∧ as.length = mj.2.2.2.2.2 ∧ (qm_fl as).length ≤ mj.2.2.1 ∧ qm_cat rest ≤ 8 ∧ st = as.reverse ++ rest) ∨
    (∃ i a as' ci fs, ins = .invokevirtual i ∧ po i = some (.inr (.inl (false, mj))) ∧ lay[a]? = some (.inl (ci, fs)) ∧ ci = mj.2.2.2.2.1 ∧ as = .ref a :: as' ∧ as'.length = mj.2.2.2.2.2 ∧ (qm_fl as).length ≤ mj.2.2.1 ∧ qm_cat rest ≤ 8 ∧ st = as'.reverse ++ .ref a :: rest) := by
  unfold qm_call at h
  split at h
  · split at h
    · rename_i i _ mk hpo
      split at h
      · rename_i g
        cases h
        refine Or.inl ⟨i, rfl, hpo, by rw [List.length_reverse]; exact g.1, g.2.1, g.2.2, ?_⟩
        rw [List.reverse_reverse, List.take_append_drop]
      · cases h
    · cases h
  · split at h
    · rename_i i _ mk hpo
      split at h
      · rename_i a r hdr
        split at h
        · rename_i ci fs hla
          split at h
          · rename_i g
            cases h
            refine Or.inr ⟨i, a, _, ci, fs, rfl, hpo, hla, g.1, rfl, by rw [List.length_reverse]; exact g.2.1, g.2.2.1, g.2.2.2, ?_⟩
            rw [List.reverse_reverse, ← hdr, List.take_append_drop]
          · cases h
        · cases h
      · cases h
    · cases h
  · cases h
theorem qm_cat_rl (α : Nat → Nat) {t : List Value} (ht : qm_cat t ≤ 8) : ((t.map (qm_rl α)).map fun v => v.category).sum ≤ 8 := by
  rw [List.map_map]
  exact (show (t.map ((fun v => v.category) ∘ qm_rl α)) = t.map (fun v => v.category) from List.map_congr_left fun v _ => qm_rl_cat α v) ▸ ht
/-- behind a call -/
theorem qm_backW {p : Program} {l : Launch} {e : Env} {R : Room} {s : State} {m : MethodId} {args : Array Value} {below : List Frame} {meth : Method} {c : Code} {H : Heap} {locs : List Loc} {cells slots : Nat} {Q : State → Prop} {D : va_G} {A : Nat → Prop} {α : Nat → Nat} {cA cR : ClassId} {H0 : Heap}
    {pc : Nat} {LS : Array Slot} {st0 rest : List Value} {σ τ : qm_St} {v : Option Value} {b : Array Value}
    (hr : va_Run p l e R s m args below meth c H locs cells slots 0 0 (F0 m pc LS st0) rest (qm_Qc α cA cR lay D (va_A (qm_W α cA cR lay σ) H.size) v τ b) (va_A (qm_W α cA cR lay σ) H.size))
    (hD : va_D A (qm_W α cA cR lay σ)) (hS : va_S A H0 H locs) (hA : ∀ q, H0.size ≤ q → A q)
    (kk : ∀ (H1 : Heap) (locs1 : List Loc), va_P D vwCl (qm_W α cA cR lay τ) H1 → va_D A (qm_W α cA cR lay τ) → va_S A H0 H1 locs1 → H.size ≤ H1.size → (∀ q : Nat, q < H.size → ¬ va_A (qm_W α cA cR lay σ) H.size q → H1[q]? = H[q]?) → W p l e R s m args below meth c H1 locs1 cells slots Q (F0 m (pc + 3) LS ((v.map (qm_rl α)).toList ++ rest))) :
    W p l e R s m args below meth c H locs cells slots Q (F0 m pc LS st0) := by
  have hf : ∀ q, va_A (qm_W α cA cR lay σ) H.size q → A q := fun q h => by
    rcases h with ⟨k, e, h⟩ | h
    · exact hD.2 k (q, e) h
    · exact hA q (Nat.le_trans hS.1 h)
  intro T hT X
  obtain ⟨w, st₀, t, T', L, h0, X', hL, e1, e2, ⟨⟨hv, hP1, hK1, hD1⟩, hz, hk⟩, st⟩ := hr T hT X
  cases hv
  rw [h0] at hz hk
  have hP2 : va_P D vwCl (qm_W α cA cR lay τ) T'.heap := by rw [e1]; exact hP1
  obtain ⟨t2, a1, b1⟩ := kk T'.heap (locs ++ L) hP2 (hD1.weaken (fun _ q _ h => hf q.1 h))
    ⟨Nat.le_trans hS.1 (by rw [e1]; exact hz), fun q h1 h2 => by
      rw [e1, hk q (Nat.lt_of_lt_of_le h1 hS.1) (fun z => h2 (hf q z))]
      exact hS.2.1 q h1 h2, fun q hq => by
      rcases List.mem_append.mp hq with h | h
      · exact hS.2.2 q h
      · exact hf _ (hL q h)⟩ (by rw [e1]; exact hz) (fun q h1 h2 => by rw [e1]; exact hk q h1 h2) T' rfl X'
  exact ⟨t2, st t2 a1, b1⟩
theorem qm_walk (hJ : ∀ w ∈ qm_jw, w ∈ G) (hw : qm_wf lay) (hpool : qm_poolOK pool G cnm) (hG : qm_goodG G) : ∀ n, qm_Walk pool lay G cnm n := by
  intro n
  induction n with
  | zero => intro d mi pc ls st σ v τ h; cases h
  | succ n ih =>
    intro d mi pc ls st σ v τ h hm p l e s m args below meth c H locs LS A α cA cR D hx hb hml hr hlk hown hts hK hP hD hS hA hl hE
    have hf : ∀ q, va_A (qm_W α cA cR lay σ) H.size q → A q := fun q h => by
      rcases h with ⟨k, e, h⟩ | h
      · exact hD.2 k (q, e) h
      · exact hA q (Nat.le_trans hS.1 h)
    have hpo : ∀ i z, pool mi.2.2.2.2.1 i = some z → qm_peOK G cnm mi.1.cls i z := fun i z hz => by
      rw [hm.2.1]
      exact hpool _ i z hz
    rw [qm_X] at h
    cases hd : decode mi.2.1 pc with
    | error er => rw [hd] at h; cases h
    | ok q =>
      obtain ⟨ins, len⟩ := q
      rw [hd] at h
      dsimp only at h
      split at h
      · rename_i hc
        split at h
        · rename_i w he
          cases h
          exact qm_endW hx hb hr hlk hK hd hc he hP hD hS
        · split at h
          · rename_i mj as rest hcall
            split at h
            · cases h
            · rename_i d'
              split at h
              · cases h
              · rename_i w σ' hX
                have hok : qm_peOK G cnm mi.1.cls (match ins with | .invokestatic i => i | .invokevirtual i => i | _ => 0) (.inr (.inl (match ins with | .invokestatic _ => true | _ => false, mj))) := by
                  rcases qm_call_inv hcall with ⟨i, rfl, g1, -⟩ | ⟨i, a, as', ci, fs, rfl, g1, -⟩
                  · exact hpo _ _ g1
                  · exact hpo _ _ g1
                obtain ⟨o1, o2, o3, o4, o5, o6, o7, o8, o9, o10⟩ := hok
                have hmj : qm_mok G cnm mj := ⟨o4, o7, o8⟩
                have hlen : qm_len ins = 0 ∨ len = qm_len ins := by
                  simp only [qm_chk, Bool.or_eq_true, beq_iff_eq] at hc
                  exact hc.imp id Eq.symm
                have hcb : ∀ i, Cond.methodLink mi.1.cls i mj.1 ∈ G → CallB (qm_rm (d' + 1 + 5)) s args mi.1.cls i mj.1 mj.2.1 mj.2.2.1 mj.2.2.2.1 (qm_ws G mj) (qm_rm (d' + 5)) 0 0 mj.2.2.2.2.2 := fun i hi =>
                  ⟨rfl, rfl, by show d' + 5 + 1 + 1 ≤ d' + 1 + 5 + 1; omega, by show 8 + (mj.2.2.1 + 11) + 64 * (d' + 5 + 1) ≤ 64 * (d' + 1 + 5 + 1); omega,
                    pay_in hts (fun w hw' => by
                      rcases List.mem_cons.mp hw' with q | q
                      · subst q; exact ⟨o1, hG _ o1⟩
                      · exact ⟨q, hG _ q⟩), List.mem_cons_self, hts _ o1, hts _ o3, o5, fun sig hs => by
                      rw [hs] at o6
                      exact (Option.some.inj o6).symm, hts _ hi⟩
                rcases qm_call_inv hcall with ⟨i, rfl, g1, g2, g3, g4, g5⟩ | ⟨i, a, as', ci, fs, rfl, g1, g2, g3, rfl, g4, g5, g6, g7⟩
                · rcases hlen with q | rfl
                  · cases q
                  have hMet := qm_Met_of ih hX hmj g3 l α cA cR D H.size
                  refine qm_backW (rest := rest.map (qm_rl α)) (v := w) (τ := σ') (va_runS (As := as.map (qm_rl α)) (rest := rest.map (qm_rl α)) ⟨hx, hb, hml, hown, hts⟩ hMet ⟨hcb i o2, hts _ (o9 rfl)⟩ ⟨qm_B_blind, fun U hU hW => ⟨rfl, by rw [hU], by rw [hU]; exact hP, va_K.moved hW.alike hK, hD.weaken (fun _ _ _ _ => trivial), by rw [← hU]; exact hE.to hS hW hU (by rw [hU]; exact hf)⟩⟩ rfl (by rw [List.length_map]; exact g2) hl.1 (by rw [g5, List.map_append, List.map_reverse]) (by show 2 * 0 + _ ≤ 8; have := qm_cat_rl α g4; omega) hd ⟨Nat.zero_le _, Nat.zero_le _⟩) hD hS hA (fun H1 locs1 hP1 hD1 hS1 _ _ => ?_)
                  have := ih (d' + 1) mi (pc + 3) ls (w.toList ++ rest) σ' v τ h hm p l e s m args below meth c H1 locs1 LS A α cA cR D hx hb hml hr hlk hown hts hK hP1 hD1 hS1 hA hl hE
                  rw [List.map_append] at this
                  cases w <;> exact this
                · rcases hlen with q | rfl
                  · cases q
                  have hMet := qm_Met_of ih hX hmj g5 l α cA cR D H.size
                  obtain ⟨hi1, hi2, T, N, hcl⟩ := o10 rfl
                  subst g3
                  refine qm_backW (rest := rest.map (qm_rl α)) (v := w) (τ := σ') (va_runV (b := α a) (C := mj.1.cls) (As := as'.map (qm_rl α)) (rest := rest.map (qm_rl α)) ⟨hx, hb, hml, hown, hts⟩ hMet ⟨hcb i o2, hts _ hi1, hts _ hi2⟩ ⟨qm_B_blind, va_recv hK hP hcl (qm_W_at g2), fun U hU hW => ⟨rfl, by rw [hU], by rw [hU]; exact hP, va_K.moved hW.alike hK, hD.weaken (fun _ _ _ _ => trivial), by rw [← hU]; exact hE.to hS hW hU (by rw [hU]; exact hf)⟩⟩ rfl (by rw [List.length_map]; exact g4) hl.1 (by rw [g7, List.map_append, List.map_reverse]; rfl) (by show 2 * 0 + _ ≤ 8; have := qm_cat_rl α g6; omega) hd ⟨Nat.zero_le _, Nat.zero_le _⟩) hD hS hA (fun H1 locs1 hP1 hD1 hS1 _ _ => ?_)
                  have := ih (d' + 1) mi (pc + 3) ls (w.toList ++ rest) σ' v τ h hm p l e s m args below meth c H1 locs1 LS A α cA cR D hx hb hml hr hlk hown hts hK hP1 hD1 hS1 hA hl hE
                  rw [List.map_append] at this
                  cases w <;> exact this
          · split at h
            · rename_i pc' ls' st' σ' hsem
              exact qm_semW hE hJ hG hx hb hw hml (by show 5 ≤ d + 5 + 1; omega) (by show 320 ≤ 64 * (d + 5 + 1); omega) (Nat.zero_le _) (Nat.zero_le _) hts hown hK hpo hd hc hsem
                (fun H1 locs1 LS1 hP1 hD1 hS1 hl1 => ih d mi pc' ls' st' σ' v τ h hm p l e s m args below meth c H1 locs1 LS1 A α cA cR D hx hb hml hr hlk hown hts hK hP1 hD1 hS1 hA hl1 hE) hP hD hS hl
            · cases h
      · cases h
end QMX
