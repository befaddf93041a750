/-! ===== from the middle of a method, in any room ===== -/
def qm_WalkR (pool : Nat → Nat → Option qm_PE) (lay : List qm_LE) (G : List Cond) (cnm : Nat → String) (n : Nat) : Prop :=
  ∀ (d : Nat) (mi : qm_MI) (pc : Nat) (ls : qm_LS) (st : List Value) (σ : qm_St) (v : Option Value) (τ : qm_St), qm_X pool lay n d mi pc ls st σ = some (v, τ) → qm_mok G cnm mi →
  ∀ (R : Room) (cells slots : Nat), d + 5 + 1 ≤ R.frames → 64 * (d + 5 + 1) ≤ R.locals → cells ≤ R.cells → slots ≤ R.slots →
  ∀ (p : Program) (l : Launch) (e : Env) (s : State) (m : MethodId) (args : Array Value) (below : List Frame) (meth : Method) (c : Code) (H : Heap) (locs : List Loc) (LS : Array Slot) (A : Nat → Prop) (α : Nat → Nat) (cA cR : ClassId) (D : va_G),
    p.tables.exec = Jvm.exec → c.code = mi.2.1 → c.maxLocals = mi.2.2.1 → meth.sig.returnType = mi.2.2.2.1 → meth.locks = false → s.vm.findClass mi.1.cls = some m.cls → (∀ w ∈ G, w.before args s = true) →
    va_K D vwCl (qm_ty cA cR) s → va_P D vwCl (qm_W α cA cR lay σ) H → va_D A (qm_W α cA cR lay σ) → va_S A s.heap H locs → (∀ q, s.heap.size ≤ q → A q) → qm_lok α LS mi.2.2.1 ls → qm_E α A s s.heap →
    W p l e R s m args below meth c H locs cells slots (MQ below (qm_Qc α cA cR lay D A v τ) args s cells slots A) (F0 m pc LS (st.map (qm_rl α)))
section QMXR
variable {pool : Nat → Nat → Option qm_PE} {lay : List qm_LE} {G : List Cond} {cnm : Nat → String}
set_option maxRecDepth 20000 in
theorem qm_walkR (hJ : ∀ w ∈ qm_jw, w ∈ G) (hw : qm_wf lay) (hpool : qm_poolOK pool G cnm) (hG : qm_goodG G) : ∀ n, qm_WalkR pool lay G cnm n := by
  intro n
  induction n with
  | zero => intro d mi pc ls st σ v τ h; cases h
  | succ n ih =>
    intro d mi pc ls st σ v τ h hm R cells slots hRf hRl hRc hRs p l e s m args below meth c H locs LS A α cA cR D hx hb hml hr hlk hown hts hK hP hD hS hA hl hE
    have hf : ∀ q, va_A (qm_W α cA cR lay σ) H.size q → A q := fun q h => by
      rcases h with ⟨k, e, h⟩ | h
      · exact hD.2 k (q, e) h
      · exact hA q (Nat.le_trans hS.1 h)
    have hpo : ∀ i z, pool mi.2.2.2.2.1 i = some z → qm_peOK G cnm mi.1.cls i z := fun i z hz => by
      rw [hm.2.1]
      exact hpool _ i z hz
    rw [qm_X] at h
    cases hd : decode mi.2.1 pc with
    | error er => rw [hd] at h; cases h
    | ok q =>
      obtain ⟨ins, len⟩ := q
      rw [hd] at h
      dsimp only at h
      split at h
      · rename_i hc
        split at h
        · rename_i w he
          cases h
          exact qm_endW hx hb hr hlk hK hd hc he hP hD hS
        · split at h
          · rename_i mj as rest hcall
            split at h
            · cases h
            · rename_i d'
              split at h
              · cases h
              · rename_i w σ' hX
                have hok : qm_peOK G cnm mi.1.cls (match ins with | .invokestatic i => i | .invokevirtual i => i | _ => 0) (.inr (.inl (match ins with | .invokestatic _ => true | _ => false, mj))) := by
                  rcases qm_call_inv hcall with ⟨i, rfl, g1, -⟩ | ⟨i, a, as', ci, fs, rfl, g1, -⟩
                  · exact hpo _ _ g1
                  · exact hpo _ _ g1
                obtain ⟨o1, o2, o3, o4, o5, o6, o7, o8, o9, o10⟩ := hok
                have hmj : qm_mok G cnm mj := ⟨o4, o7, o8⟩
                have hlen : qm_len ins = 0 ∨ len = qm_len ins := by
                  simp only [qm_chk, Bool.or_eq_true, beq_iff_eq] at hc
                  exact hc.imp id Eq.symm
                have o88 : mj.2.2.1 ≤ 40 := o8
                have hL0 : d' + 5 + 1 + 1 ≤ R.frames := by omega
                have hL2 : 8 + (mj.2.2.1 + 11) + 64 * (d' + 5 + 1) ≤ R.locals := by
                  clear hts hE hK hP hD hS hA hl
                  generalize mj.2.2.1 = z at o88 ⊢
                  omega
                have hcb : ∀ i, Cond.methodLink mi.1.cls i mj.1 ∈ G → CallB R s args mi.1.cls i mj.1 mj.2.1 mj.2.2.1 mj.2.2.2.1 (qm_ws G mj) (qm_rm (d' + 5)) 0 0 mj.2.2.2.2.2 := fun i hi =>
                  ⟨rfl, rfl, hL0, hL2,
                    pay_in hts (fun w hw' => by
                      rcases List.mem_cons.mp hw' with q | q
                      · subst q; exact ⟨o1, hG _ o1⟩
                      · exact ⟨q, hG _ q⟩), List.mem_cons_self, hts _ o1, hts _ o3, o5, fun sig hs => by
                      rw [hs] at o6
                      exact (Option.some.inj o6).symm, hts _ hi⟩
                rcases qm_call_inv hcall with ⟨i, rfl, g1, g2, g3, g4, g5⟩ | ⟨i, a, as', ci, fs, rfl, g1, g2, g3, rfl, g4, g5, g6, g7⟩
                · rcases hlen with q | rfl
                  · cases q
                  have hMet := qm_Met_of (qm_walk hJ hw hpool hG n) hX hmj g3 l α cA cR D H.size
                  refine qm_backW (rest := rest.map (qm_rl α)) (v := w) (τ := σ') (va_runS (As := as.map (qm_rl α)) (rest := rest.map (qm_rl α)) ⟨hx, hb, hml, hown, hts⟩ hMet ⟨hcb i o2, hts _ (o9 rfl)⟩ ⟨qm_B_blind, fun U hU hW => ⟨rfl, by rw [hU], by rw [hU]; exact hP, va_K.moved hW.alike hK, hD.weaken (fun _ _ _ _ => trivial), by rw [← hU]; exact hE.to hS hW hU (by rw [hU]; exact hf)⟩⟩ rfl (by rw [List.length_map]; exact g2) hl.1 (by rw [g5, List.map_append, List.map_reverse]) (by show 2 * 0 + _ ≤ 8; have := qm_cat_rl α g4; omega) hd ⟨hRc, hRs⟩) hD hS hA (fun H1 locs1 hP1 hD1 hS1 _ _ => ?_)
                  have := ih (d' + 1) mi (pc + 3) ls (w.toList ++ rest) σ' v τ h hm R cells slots hRf hRl hRc hRs p l e s m args below meth c H1 locs1 LS A α cA cR D hx hb hml hr hlk hown hts hK hP1 hD1 hS1 hA hl hE
                  rw [List.map_append] at this
                  cases w <;> exact this
                · rcases hlen with q | rfl
                  · cases q
                  have hMet := qm_Met_of (qm_walk hJ hw hpool hG n) hX hmj g5 l α cA cR D H.size
                  obtain ⟨hi1, hi2, T, N, hcl⟩ := o10 rfl
                  subst g3
                  refine qm_backW (rest := rest.map (qm_rl α)) (v := w) (τ := σ') (va_runV (b := α a) (C := mj.1.cls) (As := as'.map (qm_rl α)) (rest := rest.map (qm_rl α)) ⟨hx, hb, hml, hown, hts⟩ hMet ⟨hcb i o2, hts _ hi1, hts _ hi2⟩ ⟨qm_B_blind, va_recv hK hP hcl (qm_W_at g2), fun U hU hW => ⟨rfl, by rw [hU], by rw [hU]; exact hP, va_K.moved hW.alike hK, hD.weaken (fun _ _ _ _ => trivial), by rw [← hU]; exact hE.to hS hW hU (by rw [hU]; exact hf)⟩⟩ rfl (by rw [List.length_map]; exact g4) hl.1 (by rw [g7, List.map_append, List.map_reverse]; rfl) (by show 2 * 0 + _ ≤ 8; have := qm_cat_rl α g6; omega) hd ⟨hRc, hRs⟩) hD hS hA (fun H1 locs1 hP1 hD1 hS1 _ _ => ?_)
                  have := ih (d' + 1) mi (pc + 3) ls (w.toList ++ rest) σ' v τ h hm R cells slots hRf hRl hRc hRs p l e s m args below meth c H1 locs1 LS A α cA cR D hx hb hml hr hlk hown hts hK hP1 hD1 hS1 hA hl hE
                  rw [List.map_append] at this
                  cases w <;> exact this
          · split at h
            · rename_i pc' ls' st' σ' hsem
              exact qm_semW hE hJ hG hx hb hw hml (by omega) (by omega) hRc hRs hts hown hK hpo hd hc hsem
                (fun H1 locs1 LS1 hP1 hD1 hS1 hl1 => ih d mi pc' ls' st' σ' v τ h hm R cells slots hRf hRl hRc hRs p l e s m args below meth c H1 locs1 LS1 A α cA cR D hx hb hml hr hlk hown hts hK hP1 hD1 hS1 hA hl1 hE) hP hD hS hl
            · cases h
      · cases h
end QMXR
