/-! ===== the dispatcher, calls, the whole run ===== -/
section QMT
variable {p : Program} {l : Launch} {e : Env} {R : Room} {s : State} {m : MethodId} {args : Array Value} {below : List Frame} {meth : Method} {c : Code} {H : Heap} {locs : List Loc} {cells slots : Nat} {Q : State → Prop}
variable {cc : ByteArray} {D : va_G} {A : Nat → Prop} {α : Nat → Nat} {cA cR : ClassId} {lay : List qm_LE} {H0 : Heap}
theorem qm_semW {G : List Cond} (hE : qm_E α A s s.heap) (hJ : ∀ w ∈ qm_jw, w ∈ G) (hG : ∀ w ∈ G, (w.onTables && w.keeps) = true ∨ ∃ ty, w = Cond.arrayClass ty) (hx : p.tables.exec = Jvm.exec) (hb : c.code = cc) {pc nL len : Nat} {ls : qm_LS} {st : List Value} {σ : qm_St} {r : qm_Re} {LS : Array Slot} {cnm : Nat → String} {own : String} {po : Nat → Option qm_PE} {ins : Instr} (hw : qm_wf lay) (hml : c.maxLocals = nL) (hR1 : 5 ≤ R.frames) (hR2 : 320 ≤ R.locals) (hR3 : cells ≤ R.cells) (hR4 : slots ≤ R.slots)
    (hts : ∀ w ∈ G, w.before args s = true) (hown : s.vm.findClass own = some m.cls) (hK : va_K D vwCl (qm_ty cA cR) s) (hpo : ∀ i z, po i = some z → qm_peOK G cnm own i z)
    (hd : decode cc pc = .ok (ins, len)) (hc : qm_chk ins len = true) (h : qm_sem lay po ins pc ls st σ = some r) (k : qm_go p l e R s m args below meth c cells slots Q D A α cA cR lay s.heap nL r)
    (hP : va_P D vwCl (qm_W α cA cR lay σ) H) (hD : va_D A (qm_W α cA cR lay σ)) (hS : va_S A s.heap H locs) (hl : qm_lok α LS nL ls) :
    W p l e R s m args below meth c H locs cells slots Q (F0 m pc LS (st.map (qm_rl α))) := by
  have hlen : qm_len ins = 0 ∨ len = qm_len ins := by
    simp only [qm_chk, Bool.or_eq_true, beq_iff_eq] at hc
    exact hc.imp id Eq.symm
  cases ins with
  | iconst n =>
    rcases hlen with q | rfl
    · cases q
    · cases h
      exact lv_iconst hx hb hd rfl (k H locs LS hP hD hS hl)
  | bipush n =>
    rcases hlen with q | rfl
    · cases q
    · cases h
      exact lv_bipush hx hb hd rfl (k H locs LS hP hD hS hl)
  | sipush n =>
    rcases hlen with q | rfl
    · cases q
    · cases h
      exact lv_sipush hx hb hd rfl (k H locs LS hP hD hS hl)
  | lconst n =>
    rcases hlen with q | rfl
    · cases q
    · cases h
      exact lv_lconst hx hb hd rfl (k H locs LS hP hD hS hl)
  | ldc i =>
    rcases hlen with q | rfl
    · cases q
    · exact qm_ldcW hE hx hb hts hown hK (hpo i) hd h k hP hD hS hl
  | ldc_w i =>
    rcases hlen with q | rfl
    · cases q
    · exact qm_ldcwW hx hb hts hown hK (hpo i) hd h k hP hD hS hl
  | ldc2_w i =>
    rcases hlen with q | rfl
    · cases q
    · exact qm_ldc2W hx hb hts hown hK (hpo i) hd h k hP hD hS hl
  | iload i =>
    rcases hlen with q | rfl
    · cases q
    · exact qm_iLW hx hb (fun h1 h2 => lv_iload hx hb hd h1 h2) h k hP hD hS hl
  | iload_n i =>
    rcases hlen with q | rfl
    · cases q
    · exact qm_iLW hx hb (fun h1 h2 => lv_iload_n hx hb hd rfl h1 h2) h k hP hD hS hl
  | lload i =>
    rcases hlen with q | rfl
    · cases q
    · exact qm_lLW hx hb (fun h1 h2 => lv_lload hx hb hd h1 h2) h k hP hD hS hl
  | lload_n i =>
    rcases hlen with q | rfl
    · cases q
    · exact qm_lLW hx hb (fun h1 h2 => lv_lload_n hx hb hd rfl h1 h2) h k hP hD hS hl
  | aload i =>
    rcases hlen with q | rfl
    · cases q
    · exact qm_aLW hx hb (fun h1 h2 => lv_aload hx hb hd h1 h2) h k hP hD hS hl
  | aload_n i =>
    rcases hlen with q | rfl
    · cases q
    · exact qm_aLW hx hb (fun h1 h2 => lv_aload_n hx hb hd rfl h1 h2) h k hP hD hS hl
  | istore i =>
    rcases hlen with q | rfl
    · cases q
    · exact qm_iSW hx hb (fun h1 h2 h3 h4 => lv_istore hx hb hd h1 h2 h3 h4) h k hP hD hS hl
  | istore_n i =>
    rcases hlen with q | rfl
    · cases q
    · exact qm_iSW hx hb (fun h1 h2 h3 h4 => lv_istore_n hx hb hd rfl h1 h2 h3 h4) h k hP hD hS hl
  | lstore i =>
    rcases hlen with q | rfl
    · cases q
    · exact qm_lSW hx hb (fun h1 h2 h3 h4 => lv_lstore hx hb hd h1 h2 h3 h4) h k hP hD hS hl
  | lstore_n i =>
    rcases hlen with q | rfl
    · cases q
    · exact qm_lSW hx hb (fun h1 h2 h3 h4 => lv_lstore_n hx hb hd rfl h1 h2 h3 h4) h k hP hD hS hl
  | astore i =>
    rcases hlen with q | rfl
    · cases q
    · exact qm_aSW hx hb (fun h1 h2 h3 h4 => lv_astore hx hb hd h1 h2 h3 h4) h k hP hD hS hl
  | astore_n i =>
    rcases hlen with q | rfl
    · cases q
    · exact qm_aSW hx hb (fun h1 h2 h3 h4 => lv_astore_n hx hb hd rfl h1 h2 h3 h4) h k hP hD hS hl
  | iinc i n =>
    rcases hlen with q | rfl
    · cases q
    · exact qm_incW hx hb hd h k hP hD hS hl
  | iadd =>
    rcases hlen with q | rfl
    · cases q
    · exact qm_bW hx hb (fun h2 => lv_iadd hx hb hd h2) h k hP hD hS hl
  | isub =>
    rcases hlen with q | rfl
    · cases q
    · exact qm_bW hx hb (fun h2 => lv_isub hx hb hd h2) h k hP hD hS hl
  | imul =>
    rcases hlen with q | rfl
    · cases q
    · exact qm_bW hx hb (fun h2 => lv_imul hx hb hd h2) h k hP hD hS hl
  | iand =>
    rcases hlen with q | rfl
    · cases q
    · exact qm_bW hx hb (fun h2 => lv_iand hx hb hd h2) h k hP hD hS hl
  | ior =>
    rcases hlen with q | rfl
    · cases q
    · exact qm_bW hx hb (fun h2 => lv_ior hx hb hd h2) h k hP hD hS hl
  | ixor =>
    rcases hlen with q | rfl
    · cases q
    · exact qm_bW hx hb (fun h2 => lv_ixor hx hb hd h2) h k hP hD hS hl
  | ishl =>
    rcases hlen with q | rfl
    · cases q
    · exact qm_bW hx hb (fun h2 => lv_ishl hx hb hd h2) h k hP hD hS hl
  | ishr =>
    rcases hlen with q | rfl
    · cases q
    · exact qm_bW hx hb (fun h2 => lv_ishr hx hb hd h2) h k hP hD hS hl
  | iushr =>
    rcases hlen with q | rfl
    · cases q
    · exact qm_bW hx hb (fun h2 => lv_iushr hx hb hd rfl h2) h k hP hD hS hl
  | idiv =>
    rcases hlen with q | rfl
    · cases q
    · exact qm_bdW hx hb (fun h1 h2 => lv_idiv hx hb hd h1 h2) h k hP hD hS hl
  | irem =>
    rcases hlen with q | rfl
    · cases q
    · exact qm_bdW hx hb (fun h1 h2 => lv_irem hx hb hd h1 h2) h k hP hD hS hl
  | ineg =>
    rcases hlen with q | rfl
    · cases q
    · exact qm_uW hx hb (fun h2 => lv_ineg hx hb hd h2) h k hP hD hS hl
  | i2b =>
    rcases hlen with q | rfl
    · cases q
    · exact qm_uW hx hb (fun h2 => lv_i2b hx hb hd rfl h2) h k hP hD hS hl
  | i2s =>
    rcases hlen with q | rfl
    · cases q
    · exact qm_uW hx hb (fun h2 => lv_i2s hx hb hd rfl h2) h k hP hD hS hl
  | ladd =>
    rcases hlen with q | rfl
    · cases q
    · exact qm_lbW hx hb (fun h2 => lv_ladd hx hb hd h2) h k hP hD hS hl
  | lmul =>
    rcases hlen with q | rfl
    · cases q
    · exact qm_lbW hx hb (fun h2 => lv_lmul hx hb hd h2) h k hP hD hS hl
  | ldiv =>
    rcases hlen with q | rfl
    · cases q
    · exact qm_lbdW hx hb (fun h1 h2 => lv_ldiv hx hb hd h1 h2) h k hP hD hS hl
  | lrem =>
    rcases hlen with q | rfl
    · cases q
    · exact qm_lbdW hx hb (fun h1 h2 => lv_lrem hx hb hd h1 h2) h k hP hD hS hl
  | lcmp =>
    rcases hlen with q | rfl
    · cases q
    · dsimp only [qm_sem] at h
      split at h
      · cases h
        exact W.lcmp hx hb hd (k H locs LS hP hD hS hl)
      · cases h
  | i2l =>
    rcases hlen with q | rfl
    · cases q
    · dsimp only [qm_sem] at h
      split at h
      · cases h
        exact lv_i2l hx hb hd rfl (k H locs LS hP hD hS hl)
      · cases h
  | l2i =>
    rcases hlen with q | rfl
    · cases q
    · dsimp only [qm_sem] at h
      split at h
      · cases h
        exact lv_l2i hx hb hd rfl (k H locs LS hP hD hS hl)
      · cases h
  | dup =>
    rcases hlen with q | rfl
    · cases q
    · dsimp only [qm_sem] at h
      split at h
      · split at h
        · rename_i g
          cases h
          exact lv_dup hx hb hd (by rw [qm_rl_cat]; exact g) (k H locs LS hP hD hS hl)
        · cases h
      · cases h
  | dup2 =>
    rcases hlen with q | rfl
    · cases q
    · dsimp only [qm_sem] at h
      split at h
      · split at h
        · rename_i g
          cases h
          exact lv_dup2_11 hx hb hd (by rw [qm_rl_cat]; exact g.1) (by rw [qm_rl_cat]; exact g.2) (k H locs LS hP hD hS hl)
        · cases h
      · cases h
  | pop =>
    rcases hlen with q | rfl
    · cases q
    · dsimp only [qm_sem] at h
      split at h
      · split at h
        · rename_i g
          cases h
          exact lv_pop hx hb hd (by rw [qm_rl_cat]; exact g) (k H locs LS hP hD hS hl)
        · cases h
      · cases h
  | goto off =>
    rcases hlen with q | rfl
    · cases q
    · obtain ⟨tt, ht, kw⟩ := qm_jmpW h k hP hD hS hl
      exact lv_goto hx hb hd ht kw
  | ifCond cd off =>
    rcases hlen with q | rfl
    · cases q
    · exact qm_ifW hx hb hd h k hP hD hS hl
  | if_icmp cd off =>
    rcases hlen with q | rfl
    · cases q
    · exact qm_if2W hx hb hd h k hP hD hS hl
  | tableswitch dflt lo hi offs => exact qm_tswW hx hb hd h k hP hD hS hl
  | lookupswitch dflt ps => exact qm_lswW hx hb hd h k hP hD hS hl
  | getfield i =>
    rcases hlen with q | rfl
    · cases q
    · exact qm_getW hx hb hts hown hK (hpo i) hd h k hP hD hS hl
  | putfield i =>
    rcases hlen with q | rfl
    · cases q
    · exact qm_putW hx hb hw hts hown hK (hpo i) hd h k hP hD hS hl
  | iaload =>
    rcases hlen with q | rfl
    · cases q
    · exact qm_ialW hx hb hK hd h k hP hD hS hl
  | aaload =>
    rcases hlen with q | rfl
    · cases q
    · exact qm_aalW hx hb hK hd h k hP hD hS hl
  | iastore =>
    rcases hlen with q | rfl
    · cases q
    · exact qm_iasW hx hb hw hK hd h k hP hD hS hl
  | arraylength =>
    rcases hlen with q | rfl
    · cases q
    · exact qm_alnW hx hb hK hd h k hP hD hS hl
  | invokestatic i =>
    rcases hlen with q | rfl
    · cases q
    · exact qm_libW hx hb hw hml (by omega) (by omega) hR3 hR4 hts hown hK (hpo i) hd h k hP hD hS hl
  | invokevirtual i =>
    rcases hlen with q | rfl
    · cases q
    · exact qm_sopW hE hJ hG hx hb hml hR1 hR2 hR3 hR4 hts hown (hpo i) hd h k hP hD hS hl
  | _ => cases h
/-- what a method leaves behind -/
def qm_Qc (α : Nat → Nat) (cA cR : ClassId) (lay : List qm_LE) (D : va_G) (A : Nat → Prop) (v : Option Value) (τ : qm_St) : Array Value → State → Outcome → State → Prop := fun _ st o t =>
  (o = .returned (v.map (qm_rl α)) ∧ va_P D vwCl (qm_W α cA cR lay τ) t.heap ∧ va_K D vwCl (qm_ty cA cR) t ∧ va_D A (qm_W α cA cR lay τ)) ∧ va_F A st t
theorem qm_endW (hx : p.tables.exec = Jvm.exec) (hb : c.code = cc) {pc len : Nat} {st : List Value} {σ : qm_St} {LS : Array Slot} {v : Option Value} {ret : Option FieldType} {ins : Instr} (hr : meth.sig.returnType = ret) (hlocks : meth.locks = false) (hK : va_K D vwCl (qm_ty cA cR) s)
    (hd : decode cc pc = .ok (ins, len)) (hc : qm_chk ins len = true) (h : qm_end ret ins st = some v)
    (hP : va_P D vwCl (qm_W α cA cR lay σ) H) (hD : va_D A (qm_W α cA cR lay σ)) (hS : va_S A s.heap H locs) :
    W p l e R s m args below meth c H locs cells slots (MQ below (qm_Qc α cA cR lay D A v σ) args s cells slots A) (F0 m pc LS (st.map (qm_rl α))) := by
  have hlen : qm_len ins = 0 ∨ len = qm_len ins := by
    simp only [qm_chk, Bool.or_eq_true, beq_iff_eq] at hc
    exact hc.imp id Eq.symm
  have hq : ∀ t : State, t.heap = H → s.WarmedH t.vm → qm_Qc α cA cR lay D A v σ args s (.returned (v.map (qm_rl α))) t := fun t ht hW => ⟨⟨rfl, by rw [ht]; exact hP, va_K.moved hW.alike hK, hD⟩, hS.F ht⟩
  cases ins with
  | ireturn =>
    rcases hlen with q | rfl
    · cases q
    · dsimp only [qm_end] at h
      split at h
      · cases h
        exact W.iret hx hb hr hq hS.2.2 hd hlocks
      · split at h
        · rename_i g
          cases h
          refine W.zret hx hb hr ?_ hq hS.2.2 hd hlocks
          rcases g with rfl | rfl <;> rfl
        · cases h
      · cases h
  | lreturn =>
    rcases hlen with q | rfl
    · cases q
    · dsimp only [qm_end] at h
      split at h
      · cases h
        exact W.lret hx hb hr hq hS.2.2 hd hlocks
      · cases h
  | areturn =>
    rcases hlen with q | rfl
    · cases q
    · dsimp only [qm_end] at h
      split at h
      · cases h
        exact W.aret hx hb hr (Or.inl ⟨_, rfl⟩) (Or.inr ⟨_, rfl⟩) hq hS.2.2 hd hlocks
      · cases h
  | return_ =>
    rcases hlen with q | rfl
    · cases q
    · dsimp only [qm_end] at h
      split at h
      · cases h
        exact W.vret hx hb hr hq hS.2.2 hd hlocks
      · cases h
  | _ => cases h
end QMT
