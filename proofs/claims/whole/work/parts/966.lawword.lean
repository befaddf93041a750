/-! ===== what the machine answers is of the method's kind ===== -/
theorem qn_endI {ins : Instr} {st : List Value} {v : Value} (h : qm_end (some .int) ins st = some (some v)) : ∃ x, v = .int x := by
  unfold qm_end at h
  split at h
  · split at h
    · cases h; exact ⟨_, rfl⟩
    · rename_i e; cases e
    · cases h
  · split at h
    · rename_i e; cases e
    · cases h
  · split at h
    · rename_i e; cases e
    · cases h
  · split at h
    · rename_i e; cases e
    · cases h
  · cases h
theorem qn_endL {ins : Instr} {st : List Value} {v : Value} (h : qm_end (some .long) ins st = some (some v)) : ∃ x, v = .long x := by
  unfold qm_end at h
  split at h
  · split at h
    · rename_i e; cases e
    · rename_i e; cases e
    · cases h
  · split at h
    · cases h; exact ⟨_, rfl⟩
    · cases h
  · split at h
    · rename_i e; cases e
    · cases h
  · split at h
    · rename_i e; cases e
    · cases h
  · cases h
theorem qn_ans {lay : List qm_LE} : ∀ (n d : Nat) (mi : qm_MI) (pc : Nat) (ls : qm_LS) (st : List Value) (σ : qm_St) (v : Value) (τ : qm_St), qm_X qm_pool lay n d mi pc ls st σ = some (some v, τ) → (mi.2.2.2.1 = some .int → ∃ x, v = .int x) ∧ (mi.2.2.2.1 = some .long → ∃ x, v = .long x) := by
  intro n
  induction n with
  | zero => intro d mi pc ls st σ v τ h; cases h
  | succ n ih =>
    intro d mi pc ls st σ v τ h
    rw [qm_X] at h
    cases hd : decode mi.2.1 pc with
    | error er => rw [hd] at h; cases h
    | ok q =>
      obtain ⟨ins, len⟩ := q
      rw [hd] at h
      dsimp only at h
      split at h
      · split at h
        · rename_i w he
          cases h
          exact ⟨fun hr => qn_endI (by rw [hr] at he; exact he), fun hr => qn_endL (by rw [hr] at he; exact he)⟩
        · split at h
          · split at h
            · cases h
            · split at h
              · cases h
              · exact ih _ _ _ _ _ _ _ _ h
          · split at h
            · exact ih _ _ _ _ _ _ _ _ h
            · cases h
      · cases h
theorem qn_okI {lay : List qm_LE} {d : Nat} {mj : qm_MI} {as : List Value} {σ τ : qm_St} {v : Value} (h : Ok lay d mj as σ (some v) τ) (hr : mj.2.2.2.1 = some .int) : ∃ x, v = .int x := by
  obtain ⟨-, n, hn⟩ := h
  exact (qn_ans _ _ _ _ _ _ _ _ _ hn).1 hr
theorem qn_okL {lay : List qm_LE} {d : Nat} {mj : qm_MI} {as : List Value} {σ τ : qm_St} {v : Value} (h : Ok lay d mj as σ (some v) τ) (hr : mj.2.2.2.1 = some .long) : ∃ x, v = .long x := by
  obtain ⟨-, n, hn⟩ := h
  exact (qn_ans _ _ _ _ _ _ _ _ _ hn).2 hr
/-! ===== a public call out of the law ===== -/
theorem qn_pub {p : Program} {l : Launch} {e : Env} {R : Room} {s : State} {m : MethodId} {args : Array Value} {below : List Frame} {meth : Method} {c : Code} {H : Heap} {locs : List Loc} {cells slots : Nat} {Q : State → Prop} {cc : ByteArray} {pc nL i a : Nat} {LS : Array Slot} {A : Nat → Prop} {α : Nat → Nat} {cA cR : ClassId} {D : va_G} {own : String} {mj : qm_MI} {fs : List (Nat ⊕ Nat)} {as rest st0 : List Value} {σ τ : qm_St} {v : Value}
    (hx : p.tables.exec = Jvm.exec) (hb : c.code = cc) (hml : c.maxLocals = nL) (hown : s.vm.findClass own = some m.cls) (hts : ∀ w ∈ qm_G, w.before args s = true)
    (hpe : qm_peOK qm_G qm_cnm own i (.inr (.inl (false, mj)))) (hO : Ok qm_lay 100 mj (.ref a :: as) σ (some v) τ) (hg : qm_lay[a]? = some (.inl (mj.2.2.2.2.1, fs))) (hlen : as.length = mj.2.2.2.2.2)
    (hst : st0 = (as.map (qm_rl α)).reverse ++ .ref (α a) :: rest) (hcat : (rest.map fun v => v.category).sum ≤ 8) (hR : 107 ≤ R.frames ∧ 6900 ≤ R.locals) (hcs : cells ≤ R.cells ∧ slots ≤ R.slots)
    (hd : decode cc pc = .ok (.invokevirtual i, 3)) (hl : LS.size = nL) (hK : va_K D vwCl (qm_ty cA cR) s) (hP : va_P D vwCl (qm_W α cA cR qm_lay σ) H) (hD : va_D A (qm_W α cA cR qm_lay σ)) (hS : va_S A s.heap H locs) (hA : ∀ q, s.heap.size ≤ q → A q) (hE : qm_E α A s s.heap)
    (kk : ∀ (H1 : Heap) (locs1 : List Loc), va_P D vwCl (qm_W α cA cR qm_lay τ) H1 → va_D A (qm_W α cA cR qm_lay τ) → va_S A s.heap H1 locs1 → W p l e R s m args below meth c H1 locs1 cells slots Q (F0 m (pc + 3) LS (qm_rl α v :: rest))) :
    W p l e R s m args below meth c H locs cells slots Q (F0 m pc LS st0) := by
  subst hst
  obtain ⟨o1, o2, o3, o4, o5, o6, o7, o8, o9, o10⟩ := hpe
  obtain ⟨hi1, hi2, T, N, hcl⟩ := o10 rfl
  have hMet := qm_Met qm_wf_lay hO ⟨o4, o7, o8⟩ l α cA cR D H.size
  have hf : ∀ q, va_A (qm_W α cA cR qm_lay σ) H.size q → A q := fun q h => by
    rcases h with ⟨k, e, h⟩ | h
    · exact hD.2 k (q, e) h
    · exact hA q (Nat.le_trans hS.1 h)
  have hcb : CallB R s args own i mj.1 mj.2.1 mj.2.2.1 mj.2.2.2.1 (qm_ws qm_G mj) (qm_rm (100 + 5)) 0 0 mj.2.2.2.2.2 :=
    ⟨rfl, rfl, by show 100 + 5 + 1 + 1 ≤ R.frames; omega, by show 8 + (mj.2.2.1 + 11) + 64 * (100 + 5 + 1) ≤ R.locals; have o88 : mj.2.2.1 ≤ 40 := o8; omega,
      pay_in hts (fun w hw' => by
        rcases List.mem_cons.mp hw' with q | q
        · subst q; exact ⟨o1, qm_G_good _ o1⟩
        · exact ⟨q, qm_G_good _ q⟩), List.mem_cons_self, hts _ o1, hts _ o3, o5, fun sig hs => by
        rw [hs] at o6
        exact (Option.some.inj o6).symm, hts _ o2⟩
  exact qm_backW (rest := rest) (v := some v) (τ := τ) (va_runV (b := α a) (C := mj.1.cls) (As := as.map (qm_rl α)) (rest := rest) ⟨hx, hb, hml, hown, hts⟩ hMet ⟨hcb, hts _ hi1, hts _ hi2⟩ ⟨qm_B_blind, va_recv hK hP hcl (qm_W_at hg), fun U hU hW => ⟨rfl, by rw [hU], by rw [hU]; exact hP, va_K.moved hW.alike hK, hD.weaken (fun _ _ _ _ => trivial), by rw [← hU]; exact hE.to hS hW hU (by rw [hU]; exact hf)⟩⟩ rfl (by rw [List.length_map]; exact hlen) hl rfl (by show 2 * 0 + _ ≤ 8; omega) hd ⟨by omega, by omega⟩) hD hS hA (fun H1 locs1 hP1 hD1 hS1 _ _ => kk H1 locs1 hP1 hD1 hS1)

/-! ===== the law's calls: words ===== -/
set_option maxRecDepth 100000 in
theorem ql_w478 : (Jvm.Cond.methodLink "FirstColourLaw" (13 : Nat) ({ cls := "FirstColour", name := "count", desc := "(I)I" } : Jvm.MethodName)) ∈ qm_G := qm_inW (i := 478) (by decide +kernel) rfl
set_option maxRecDepth 100000 in
theorem ql_w479 : (Jvm.Cond.instanceMethod ({ cls := "FirstColour", name := "count", desc := "(I)I" } : Jvm.MethodName)) ∈ qm_G := qm_inW (i := 479) (by decide +kernel) rfl
set_option maxRecDepth 100000 in
theorem ql_w480 : (Jvm.Cond.selects "FirstColour" ({ cls := "FirstColour", name := "count", desc := "(I)I" } : Jvm.MethodName) ({ cls := "FirstColour", name := "count", desc := "(I)I" } : Jvm.MethodName)) ∈ qm_G := qm_inW (i := 480) (by decide +kernel) rfl
set_option maxRecDepth 100000 in
theorem ql_w481 : (Jvm.Cond.code ({ cls := "FirstColour", name := "count", desc := "(I)I" } : Jvm.MethodName) prog_1_method_2_code (2 : Nat) (Option.some Jvm.ClassFile.FieldType.int)) ∈ qm_G := qm_inW (i := 481) (by decide +kernel) rfl
set_option maxRecDepth 100000 in
theorem ql_w508 : (Jvm.Cond.methodLink "FirstColourLaw" (18 : Nat) ({ cls := "FirstColour", name := "feed", desc := "(IIIIII)I" } : Jvm.MethodName)) ∈ qm_G := qm_inW (i := 508) (by decide +kernel) rfl
set_option maxRecDepth 100000 in
theorem ql_w509 : (Jvm.Cond.instanceMethod ({ cls := "FirstColour", name := "feed", desc := "(IIIIII)I" } : Jvm.MethodName)) ∈ qm_G := qm_inW (i := 509) (by decide +kernel) rfl
set_option maxRecDepth 100000 in
theorem ql_w510 : (Jvm.Cond.selects "FirstColour" ({ cls := "FirstColour", name := "feed", desc := "(IIIIII)I" } : Jvm.MethodName) ({ cls := "FirstColour", name := "feed", desc := "(IIIIII)I" } : Jvm.MethodName)) ∈ qm_G := qm_inW (i := 510) (by decide +kernel) rfl
set_option maxRecDepth 100000 in
theorem ql_w511 : (Jvm.Cond.code ({ cls := "FirstColour", name := "feed", desc := "(IIIIII)I" } : Jvm.MethodName) prog_1_method_3_code (7 : Nat) (Option.some Jvm.ClassFile.FieldType.int)) ∈ qm_G := qm_inW (i := 511) (by decide +kernel) rfl
set_option maxRecDepth 100000 in
theorem ql_w516 : (Jvm.Cond.methodLink "FirstColourLaw" (23 : Nat) ({ cls := "FirstColour", name := "text", desc := "()I" } : Jvm.MethodName)) ∈ qm_G := qm_inW (i := 516) (by decide +kernel) rfl
set_option maxRecDepth 100000 in
theorem ql_w517 : (Jvm.Cond.instanceMethod ({ cls := "FirstColour", name := "text", desc := "()I" } : Jvm.MethodName)) ∈ qm_G := qm_inW (i := 517) (by decide +kernel) rfl
set_option maxRecDepth 100000 in
theorem ql_w518 : (Jvm.Cond.selects "FirstColour" ({ cls := "FirstColour", name := "text", desc := "()I" } : Jvm.MethodName) ({ cls := "FirstColour", name := "text", desc := "()I" } : Jvm.MethodName)) ∈ qm_G := qm_inW (i := 518) (by decide +kernel) rfl
set_option maxRecDepth 100000 in
theorem ql_w519 : (Jvm.Cond.code ({ cls := "FirstColour", name := "text", desc := "()I" } : Jvm.MethodName) prog_1_method_5_code (2 : Nat) (Option.some Jvm.ClassFile.FieldType.int)) ∈ qm_G := qm_inW (i := 519) (by decide +kernel) rfl
set_option maxRecDepth 100000 in
theorem ql_w521 : (Jvm.Cond.methodLink "FirstColourLaw" (28 : Nat) ({ cls := "FirstColour", name := "force", desc := "(I)I" } : Jvm.MethodName)) ∈ qm_G := qm_inW (i := 521) (by decide +kernel) rfl
set_option maxRecDepth 100000 in
theorem ql_w522 : (Jvm.Cond.instanceMethod ({ cls := "FirstColour", name := "force", desc := "(I)I" } : Jvm.MethodName)) ∈ qm_G := qm_inW (i := 522) (by decide +kernel) rfl
set_option maxRecDepth 100000 in
theorem ql_w523 : (Jvm.Cond.selects "FirstColour" ({ cls := "FirstColour", name := "force", desc := "(I)I" } : Jvm.MethodName) ({ cls := "FirstColour", name := "force", desc := "(I)I" } : Jvm.MethodName)) ∈ qm_G := qm_inW (i := 523) (by decide +kernel) rfl
set_option maxRecDepth 100000 in
theorem ql_w524 : (Jvm.Cond.code ({ cls := "FirstColour", name := "force", desc := "(I)I" } : Jvm.MethodName) prog_1_method_6_code (3 : Nat) (Option.some Jvm.ClassFile.FieldType.int)) ∈ qm_G := qm_inW (i := 524) (by decide +kernel) rfl
set_option maxRecDepth 100000 in
theorem ql_w525 : (Jvm.Cond.methodLink "FirstColourLaw" (32 : Nat) ({ cls := "FirstColour", name := "asks", desc := "(IIII)I" } : Jvm.MethodName)) ∈ qm_G := qm_inW (i := 525) (by decide +kernel) rfl
set_option maxRecDepth 100000 in
theorem ql_w526 : (Jvm.Cond.instanceMethod ({ cls := "FirstColour", name := "asks", desc := "(IIII)I" } : Jvm.MethodName)) ∈ qm_G := qm_inW (i := 526) (by decide +kernel) rfl
set_option maxRecDepth 100000 in
theorem ql_w527 : (Jvm.Cond.selects "FirstColour" ({ cls := "FirstColour", name := "asks", desc := "(IIII)I" } : Jvm.MethodName) ({ cls := "FirstColour", name := "asks", desc := "(IIII)I" } : Jvm.MethodName)) ∈ qm_G := qm_inW (i := 527) (by decide +kernel) rfl
set_option maxRecDepth 100000 in
theorem ql_w528 : (Jvm.Cond.code ({ cls := "FirstColour", name := "asks", desc := "(IIII)I" } : Jvm.MethodName) prog_1_method_7_code (5 : Nat) (Option.some Jvm.ClassFile.FieldType.int)) ∈ qm_G := qm_inW (i := 528) (by decide +kernel) rfl
set_option maxRecDepth 100000 in
theorem ql_w558 : (Jvm.Cond.methodLink "FirstColourLaw" (37 : Nat) ({ cls := "FirstColour", name := "lot", desc := "(III)I" } : Jvm.MethodName)) ∈ qm_G := qm_inW (i := 558) (by decide +kernel) rfl
set_option maxRecDepth 100000 in
theorem ql_w574 : (Jvm.Cond.methodLink "FirstColourLaw" (42 : Nat) ({ cls := "FirstColour", name := "told", desc := "(II)I" } : Jvm.MethodName)) ∈ qm_G := qm_inW (i := 574) (by decide +kernel) rfl
set_option maxRecDepth 100000 in
theorem ql_w575 : (Jvm.Cond.instanceMethod ({ cls := "FirstColour", name := "told", desc := "(II)I" } : Jvm.MethodName)) ∈ qm_G := qm_inW (i := 575) (by decide +kernel) rfl
set_option maxRecDepth 100000 in
theorem ql_w576 : (Jvm.Cond.selects "FirstColour" ({ cls := "FirstColour", name := "told", desc := "(II)I" } : Jvm.MethodName) ({ cls := "FirstColour", name := "told", desc := "(II)I" } : Jvm.MethodName)) ∈ qm_G := qm_inW (i := 576) (by decide +kernel) rfl
set_option maxRecDepth 100000 in
theorem ql_w577 : (Jvm.Cond.code ({ cls := "FirstColour", name := "told", desc := "(II)I" } : Jvm.MethodName) prog_1_method_10_code (3 : Nat) (Option.some Jvm.ClassFile.FieldType.int)) ∈ qm_G := qm_inW (i := 577) (by decide +kernel) rfl
set_option maxRecDepth 100000 in
theorem ql_w583 : (Jvm.Cond.methodLink "FirstColourLaw" (47 : Nat) ({ cls := "FirstColour", name := "build", desc := "(I)I" } : Jvm.MethodName)) ∈ qm_G := qm_inW (i := 583) (by decide +kernel) rfl
set_option maxRecDepth 100000 in
theorem ql_w584 : (Jvm.Cond.instanceMethod ({ cls := "FirstColour", name := "build", desc := "(I)I" } : Jvm.MethodName)) ∈ qm_G := qm_inW (i := 584) (by decide +kernel) rfl
set_option maxRecDepth 100000 in
theorem ql_w585 : (Jvm.Cond.selects "FirstColour" ({ cls := "FirstColour", name := "build", desc := "(I)I" } : Jvm.MethodName) ({ cls := "FirstColour", name := "build", desc := "(I)I" } : Jvm.MethodName)) ∈ qm_G := qm_inW (i := 585) (by decide +kernel) rfl
set_option maxRecDepth 100000 in
theorem ql_w586 : (Jvm.Cond.code ({ cls := "FirstColour", name := "build", desc := "(I)I" } : Jvm.MethodName) prog_1_method_11_code (2 : Nat) (Option.some Jvm.ClassFile.FieldType.int)) ∈ qm_G := qm_inW (i := 586) (by decide +kernel) rfl
set_option maxRecDepth 100000 in
theorem ql_w620 : (Jvm.Cond.methodLink "FirstColourLaw" (51 : Nat) ({ cls := "FirstColour", name := "would", desc := "(I)I" } : Jvm.MethodName)) ∈ qm_G := qm_inW (i := 620) (by decide +kernel) rfl
set_option maxRecDepth 100000 in
theorem ql_w621 : (Jvm.Cond.instanceMethod ({ cls := "FirstColour", name := "would", desc := "(I)I" } : Jvm.MethodName)) ∈ qm_G := qm_inW (i := 621) (by decide +kernel) rfl
set_option maxRecDepth 100000 in
theorem ql_w622 : (Jvm.Cond.selects "FirstColour" ({ cls := "FirstColour", name := "would", desc := "(I)I" } : Jvm.MethodName) ({ cls := "FirstColour", name := "would", desc := "(I)I" } : Jvm.MethodName)) ∈ qm_G := qm_inW (i := 622) (by decide +kernel) rfl
set_option maxRecDepth 100000 in
theorem ql_w623 : (Jvm.Cond.code ({ cls := "FirstColour", name := "would", desc := "(I)I" } : Jvm.MethodName) prog_1_method_12_code (2 : Nat) (Option.some Jvm.ClassFile.FieldType.int)) ∈ qm_G := qm_inW (i := 623) (by decide +kernel) rfl
set_option maxRecDepth 100000 in
theorem ql_w625 : (Jvm.Cond.methodLink "FirstColourLaw" (55 : Nat) ({ cls := "FirstColour", name := "pull", desc := "(I)I" } : Jvm.MethodName)) ∈ qm_G := qm_inW (i := 625) (by decide +kernel) rfl
set_option maxRecDepth 100000 in
theorem ql_w626 : (Jvm.Cond.instanceMethod ({ cls := "FirstColour", name := "pull", desc := "(I)I" } : Jvm.MethodName)) ∈ qm_G := qm_inW (i := 626) (by decide +kernel) rfl
set_option maxRecDepth 100000 in
theorem ql_w627 : (Jvm.Cond.selects "FirstColour" ({ cls := "FirstColour", name := "pull", desc := "(I)I" } : Jvm.MethodName) ({ cls := "FirstColour", name := "pull", desc := "(I)I" } : Jvm.MethodName)) ∈ qm_G := qm_inW (i := 627) (by decide +kernel) rfl
set_option maxRecDepth 100000 in
theorem ql_w628 : (Jvm.Cond.code ({ cls := "FirstColour", name := "pull", desc := "(I)I" } : Jvm.MethodName) prog_1_method_13_code (3 : Nat) (Option.some Jvm.ClassFile.FieldType.int)) ∈ qm_G := qm_inW (i := 628) (by decide +kernel) rfl
set_option maxRecDepth 100000 in
theorem ql_w633 : (Jvm.Cond.methodLink "FirstColourLaw" (59 : Nat) ({ cls := "FirstColour", name := "paint", desc := "(II)I" } : Jvm.MethodName)) ∈ qm_G := qm_inW (i := 633) (by decide +kernel) rfl
set_option maxRecDepth 100000 in
theorem ql_w634 : (Jvm.Cond.instanceMethod ({ cls := "FirstColour", name := "paint", desc := "(II)I" } : Jvm.MethodName)) ∈ qm_G := qm_inW (i := 634) (by decide +kernel) rfl
set_option maxRecDepth 100000 in
theorem ql_w635 : (Jvm.Cond.selects "FirstColour" ({ cls := "FirstColour", name := "paint", desc := "(II)I" } : Jvm.MethodName) ({ cls := "FirstColour", name := "paint", desc := "(II)I" } : Jvm.MethodName)) ∈ qm_G := qm_inW (i := 635) (by decide +kernel) rfl
set_option maxRecDepth 100000 in
theorem ql_w636 : (Jvm.Cond.code ({ cls := "FirstColour", name := "paint", desc := "(II)I" } : Jvm.MethodName) prog_1_method_14_code (4 : Nat) (Option.some Jvm.ClassFile.FieldType.int)) ∈ qm_G := qm_inW (i := 636) (by decide +kernel) rfl
set_option maxRecDepth 100000 in
theorem ql_w638 : (Jvm.Cond.methodLink "FirstColourLaw" (63 : Nat) ({ cls := "FirstColour", name := "lane", desc := "(II)I" } : Jvm.MethodName)) ∈ qm_G := qm_inW (i := 638) (by decide +kernel) rfl
set_option maxRecDepth 100000 in
theorem ql_w639 : (Jvm.Cond.instanceMethod ({ cls := "FirstColour", name := "lane", desc := "(II)I" } : Jvm.MethodName)) ∈ qm_G := qm_inW (i := 639) (by decide +kernel) rfl
set_option maxRecDepth 100000 in
theorem ql_w640 : (Jvm.Cond.selects "FirstColour" ({ cls := "FirstColour", name := "lane", desc := "(II)I" } : Jvm.MethodName) ({ cls := "FirstColour", name := "lane", desc := "(II)I" } : Jvm.MethodName)) ∈ qm_G := qm_inW (i := 640) (by decide +kernel) rfl
set_option maxRecDepth 100000 in
theorem ql_w641 : (Jvm.Cond.code ({ cls := "FirstColour", name := "lane", desc := "(II)I" } : Jvm.MethodName) prog_1_method_15_code (4 : Nat) (Option.some Jvm.ClassFile.FieldType.int)) ∈ qm_G := qm_inW (i := 641) (by decide +kernel) rfl
set_option maxRecDepth 100000 in
theorem ql_w668 : (Jvm.Cond.methodLink "FirstColourLaw" (67 : Nat) ({ cls := "FirstColour", name := "close", desc := "(II)I" } : Jvm.MethodName)) ∈ qm_G := qm_inW (i := 668) (by decide +kernel) rfl
set_option maxRecDepth 100000 in
theorem ql_w669 : (Jvm.Cond.instanceMethod ({ cls := "FirstColour", name := "close", desc := "(II)I" } : Jvm.MethodName)) ∈ qm_G := qm_inW (i := 669) (by decide +kernel) rfl
set_option maxRecDepth 100000 in
theorem ql_w670 : (Jvm.Cond.selects "FirstColour" ({ cls := "FirstColour", name := "close", desc := "(II)I" } : Jvm.MethodName) ({ cls := "FirstColour", name := "close", desc := "(II)I" } : Jvm.MethodName)) ∈ qm_G := qm_inW (i := 670) (by decide +kernel) rfl
set_option maxRecDepth 100000 in
theorem ql_w671 : (Jvm.Cond.code ({ cls := "FirstColour", name := "close", desc := "(II)I" } : Jvm.MethodName) prog_1_method_17_code (3 : Nat) (Option.some Jvm.ClassFile.FieldType.int)) ∈ qm_G := qm_inW (i := 671) (by decide +kernel) rfl
set_option maxRecDepth 100000 in
theorem ql_w676 : (Jvm.Cond.methodLink "FirstColourLaw" (71 : Nat) ({ cls := "FirstColour", name := "idle", desc := "(I)I" } : Jvm.MethodName)) ∈ qm_G := qm_inW (i := 676) (by decide +kernel) rfl
set_option maxRecDepth 100000 in
theorem ql_w677 : (Jvm.Cond.instanceMethod ({ cls := "FirstColour", name := "idle", desc := "(I)I" } : Jvm.MethodName)) ∈ qm_G := qm_inW (i := 677) (by decide +kernel) rfl
set_option maxRecDepth 100000 in
theorem ql_w678 : (Jvm.Cond.selects "FirstColour" ({ cls := "FirstColour", name := "idle", desc := "(I)I" } : Jvm.MethodName) ({ cls := "FirstColour", name := "idle", desc := "(I)I" } : Jvm.MethodName)) ∈ qm_G := qm_inW (i := 678) (by decide +kernel) rfl
set_option maxRecDepth 100000 in
theorem ql_w679 : (Jvm.Cond.code ({ cls := "FirstColour", name := "idle", desc := "(I)I" } : Jvm.MethodName) prog_1_method_18_code (8 : Nat) (Option.some Jvm.ClassFile.FieldType.int)) ∈ qm_G := qm_inW (i := 679) (by decide +kernel) rfl
set_option maxRecDepth 100000 in
theorem ql_w689 : (Jvm.Cond.methodLink "FirstColourLaw" (75 : Nat) ({ cls := "FirstColour", name := "order", desc := "(II)I" } : Jvm.MethodName)) ∈ qm_G := qm_inW (i := 689) (by decide +kernel) rfl
set_option maxRecDepth 100000 in
theorem ql_w690 : (Jvm.Cond.instanceMethod ({ cls := "FirstColour", name := "order", desc := "(II)I" } : Jvm.MethodName)) ∈ qm_G := qm_inW (i := 690) (by decide +kernel) rfl
set_option maxRecDepth 100000 in
theorem ql_w691 : (Jvm.Cond.selects "FirstColour" ({ cls := "FirstColour", name := "order", desc := "(II)I" } : Jvm.MethodName) ({ cls := "FirstColour", name := "order", desc := "(II)I" } : Jvm.MethodName)) ∈ qm_G := qm_inW (i := 691) (by decide +kernel) rfl
set_option maxRecDepth 100000 in
theorem ql_w692 : (Jvm.Cond.code ({ cls := "FirstColour", name := "order", desc := "(II)I" } : Jvm.MethodName) prog_1_method_20_code (3 : Nat) (Option.some Jvm.ClassFile.FieldType.int)) ∈ qm_G := qm_inW (i := 692) (by decide +kernel) rfl
set_option maxRecDepth 100000 in
theorem ql_w713 : (Jvm.Cond.methodLink "FirstColourLaw" (79 : Nat) ({ cls := "FirstColour", name := "fewest", desc := "()I" } : Jvm.MethodName)) ∈ qm_G := qm_inW (i := 713) (by decide +kernel) rfl
set_option maxRecDepth 100000 in
theorem ql_w714 : (Jvm.Cond.instanceMethod ({ cls := "FirstColour", name := "fewest", desc := "()I" } : Jvm.MethodName)) ∈ qm_G := qm_inW (i := 714) (by decide +kernel) rfl
set_option maxRecDepth 100000 in
theorem ql_w715 : (Jvm.Cond.selects "FirstColour" ({ cls := "FirstColour", name := "fewest", desc := "()I" } : Jvm.MethodName) ({ cls := "FirstColour", name := "fewest", desc := "()I" } : Jvm.MethodName)) ∈ qm_G := qm_inW (i := 715) (by decide +kernel) rfl
set_option maxRecDepth 100000 in
theorem ql_w716 : (Jvm.Cond.code ({ cls := "FirstColour", name := "fewest", desc := "()I" } : Jvm.MethodName) prog_1_method_21_code (1 : Nat) (Option.some Jvm.ClassFile.FieldType.int)) ∈ qm_G := qm_inW (i := 716) (by decide +kernel) rfl
set_option maxRecDepth 100000 in
theorem ql_w726 : (Jvm.Cond.methodLink "FirstColourLaw" (83 : Nat) ({ cls := "FirstColour", name := "paints", desc := "(II)I" } : Jvm.MethodName)) ∈ qm_G := qm_inW (i := 726) (by decide +kernel) rfl
set_option maxRecDepth 100000 in
theorem ql_w727 : (Jvm.Cond.instanceMethod ({ cls := "FirstColour", name := "paints", desc := "(II)I" } : Jvm.MethodName)) ∈ qm_G := qm_inW (i := 727) (by decide +kernel) rfl
set_option maxRecDepth 100000 in
theorem ql_w728 : (Jvm.Cond.selects "FirstColour" ({ cls := "FirstColour", name := "paints", desc := "(II)I" } : Jvm.MethodName) ({ cls := "FirstColour", name := "paints", desc := "(II)I" } : Jvm.MethodName)) ∈ qm_G := qm_inW (i := 728) (by decide +kernel) rfl
set_option maxRecDepth 100000 in
theorem ql_w729 : (Jvm.Cond.code ({ cls := "FirstColour", name := "paints", desc := "(II)I" } : Jvm.MethodName) prog_1_method_22_code (4 : Nat) (Option.some Jvm.ClassFile.FieldType.int)) ∈ qm_G := qm_inW (i := 729) (by decide +kernel) rfl
set_option maxRecDepth 100000 in
theorem ql_w764 : (Jvm.Cond.methodLink "FirstColourLaw" (87 : Nat) ({ cls := "FirstColour", name := "raise", desc := "(I)I" } : Jvm.MethodName)) ∈ qm_G := qm_inW (i := 764) (by decide +kernel) rfl
set_option maxRecDepth 100000 in
theorem ql_w765 : (Jvm.Cond.instanceMethod ({ cls := "FirstColour", name := "raise", desc := "(I)I" } : Jvm.MethodName)) ∈ qm_G := qm_inW (i := 765) (by decide +kernel) rfl
set_option maxRecDepth 100000 in
theorem ql_w766 : (Jvm.Cond.selects "FirstColour" ({ cls := "FirstColour", name := "raise", desc := "(I)I" } : Jvm.MethodName) ({ cls := "FirstColour", name := "raise", desc := "(I)I" } : Jvm.MethodName)) ∈ qm_G := qm_inW (i := 766) (by decide +kernel) rfl
set_option maxRecDepth 100000 in
theorem ql_w767 : (Jvm.Cond.code ({ cls := "FirstColour", name := "raise", desc := "(I)I" } : Jvm.MethodName) prog_1_method_24_code (3 : Nat) (Option.some Jvm.ClassFile.FieldType.int)) ∈ qm_G := qm_inW (i := 767) (by decide +kernel) rfl
set_option maxRecDepth 100000 in
theorem ql_w768 : (Jvm.Cond.methodLink "FirstColourLaw" (91 : Nat) ({ cls := "FirstColour", name := "when", desc := "(III)I" } : Jvm.MethodName)) ∈ qm_G := qm_inW (i := 768) (by decide +kernel) rfl
set_option maxRecDepth 100000 in
theorem ql_w769 : (Jvm.Cond.instanceMethod ({ cls := "FirstColour", name := "when", desc := "(III)I" } : Jvm.MethodName)) ∈ qm_G := qm_inW (i := 769) (by decide +kernel) rfl
set_option maxRecDepth 100000 in
theorem ql_w770 : (Jvm.Cond.selects "FirstColour" ({ cls := "FirstColour", name := "when", desc := "(III)I" } : Jvm.MethodName) ({ cls := "FirstColour", name := "when", desc := "(III)I" } : Jvm.MethodName)) ∈ qm_G := qm_inW (i := 770) (by decide +kernel) rfl
set_option maxRecDepth 100000 in
theorem ql_w771 : (Jvm.Cond.code ({ cls := "FirstColour", name := "when", desc := "(III)I" } : Jvm.MethodName) prog_1_method_25_code (10 : Nat) (Option.some Jvm.ClassFile.FieldType.int)) ∈ qm_G := qm_inW (i := 771) (by decide +kernel) rfl
set_option maxRecDepth 100000 in
theorem ql_w773 : (Jvm.Cond.methodLink "FirstColourLaw" (95 : Nat) ({ cls := "FirstColour", name := "rule", desc := "(II)I" } : Jvm.MethodName)) ∈ qm_G := qm_inW (i := 773) (by decide +kernel) rfl
set_option maxRecDepth 100000 in
theorem ql_w774 : (Jvm.Cond.instanceMethod ({ cls := "FirstColour", name := "rule", desc := "(II)I" } : Jvm.MethodName)) ∈ qm_G := qm_inW (i := 774) (by decide +kernel) rfl
set_option maxRecDepth 100000 in
theorem ql_w775 : (Jvm.Cond.selects "FirstColour" ({ cls := "FirstColour", name := "rule", desc := "(II)I" } : Jvm.MethodName) ({ cls := "FirstColour", name := "rule", desc := "(II)I" } : Jvm.MethodName)) ∈ qm_G := qm_inW (i := 775) (by decide +kernel) rfl
set_option maxRecDepth 100000 in
theorem ql_w776 : (Jvm.Cond.code ({ cls := "FirstColour", name := "rule", desc := "(II)I" } : Jvm.MethodName) prog_1_method_26_code (3 : Nat) (Option.some Jvm.ClassFile.FieldType.int)) ∈ qm_G := qm_inW (i := 776) (by decide +kernel) rfl
set_option maxRecDepth 100000 in
theorem ql_w791 : (Jvm.Cond.methodLink "FirstColourLaw" (99 : Nat) ({ cls := "FirstColour", name := "ahead", desc := "(II)I" } : Jvm.MethodName)) ∈ qm_G := qm_inW (i := 791) (by decide +kernel) rfl
set_option maxRecDepth 100000 in
theorem ql_w792 : (Jvm.Cond.instanceMethod ({ cls := "FirstColour", name := "ahead", desc := "(II)I" } : Jvm.MethodName)) ∈ qm_G := qm_inW (i := 792) (by decide +kernel) rfl
set_option maxRecDepth 100000 in
theorem ql_w793 : (Jvm.Cond.selects "FirstColour" ({ cls := "FirstColour", name := "ahead", desc := "(II)I" } : Jvm.MethodName) ({ cls := "FirstColour", name := "ahead", desc := "(II)I" } : Jvm.MethodName)) ∈ qm_G := qm_inW (i := 793) (by decide +kernel) rfl
set_option maxRecDepth 100000 in
theorem ql_w794 : (Jvm.Cond.code ({ cls := "FirstColour", name := "ahead", desc := "(II)I" } : Jvm.MethodName) prog_1_method_27_code (4 : Nat) (Option.some Jvm.ClassFile.FieldType.int)) ∈ qm_G := qm_inW (i := 794) (by decide +kernel) rfl
set_option maxRecDepth 100000 in
theorem ql_w809 : (Jvm.Cond.methodLink "FirstColourLaw" (103 : Nat) ({ cls := "FirstColour", name := "built", desc := "(I)I" } : Jvm.MethodName)) ∈ qm_G := qm_inW (i := 809) (by decide +kernel) rfl
set_option maxRecDepth 100000 in
theorem ql_w810 : (Jvm.Cond.instanceMethod ({ cls := "FirstColour", name := "built", desc := "(I)I" } : Jvm.MethodName)) ∈ qm_G := qm_inW (i := 810) (by decide +kernel) rfl
set_option maxRecDepth 100000 in
theorem ql_w811 : (Jvm.Cond.selects "FirstColour" ({ cls := "FirstColour", name := "built", desc := "(I)I" } : Jvm.MethodName) ({ cls := "FirstColour", name := "built", desc := "(I)I" } : Jvm.MethodName)) ∈ qm_G := qm_inW (i := 811) (by decide +kernel) rfl
set_option maxRecDepth 100000 in
theorem ql_w812 : (Jvm.Cond.code ({ cls := "FirstColour", name := "built", desc := "(I)I" } : Jvm.MethodName) prog_1_method_29_code (3 : Nat) (Option.some Jvm.ClassFile.FieldType.int)) ∈ qm_G := qm_inW (i := 812) (by decide +kernel) rfl
set_option maxRecDepth 100000 in
theorem ql_w823 : (Jvm.Cond.methodLink "FirstColourLaw" (107 : Nat) ({ cls := "FirstColour", name := "blame", desc := "()I" } : Jvm.MethodName)) ∈ qm_G := qm_inW (i := 823) (by decide +kernel) rfl
set_option maxRecDepth 100000 in
theorem ql_w824 : (Jvm.Cond.instanceMethod ({ cls := "FirstColour", name := "blame", desc := "()I" } : Jvm.MethodName)) ∈ qm_G := qm_inW (i := 824) (by decide +kernel) rfl
set_option maxRecDepth 100000 in
theorem ql_w825 : (Jvm.Cond.selects "FirstColour" ({ cls := "FirstColour", name := "blame", desc := "()I" } : Jvm.MethodName) ({ cls := "FirstColour", name := "blame", desc := "()I" } : Jvm.MethodName)) ∈ qm_G := qm_inW (i := 825) (by decide +kernel) rfl
set_option maxRecDepth 100000 in
theorem ql_w826 : (Jvm.Cond.code ({ cls := "FirstColour", name := "blame", desc := "()I" } : Jvm.MethodName) prog_1_method_30_code (3 : Nat) (Option.some Jvm.ClassFile.FieldType.int)) ∈ qm_G := qm_inW (i := 826) (by decide +kernel) rfl
set_option maxRecDepth 100000 in
theorem ql_w827 : (Jvm.Cond.methodLink "FirstColourLaw" (111 : Nat) ({ cls := "FirstColour", name := "judge", desc := "(I)I" } : Jvm.MethodName)) ∈ qm_G := qm_inW (i := 827) (by decide +kernel) rfl
set_option maxRecDepth 100000 in
theorem ql_w828 : (Jvm.Cond.instanceMethod ({ cls := "FirstColour", name := "judge", desc := "(I)I" } : Jvm.MethodName)) ∈ qm_G := qm_inW (i := 828) (by decide +kernel) rfl
set_option maxRecDepth 100000 in
theorem ql_w829 : (Jvm.Cond.selects "FirstColour" ({ cls := "FirstColour", name := "judge", desc := "(I)I" } : Jvm.MethodName) ({ cls := "FirstColour", name := "judge", desc := "(I)I" } : Jvm.MethodName)) ∈ qm_G := qm_inW (i := 829) (by decide +kernel) rfl
set_option maxRecDepth 100000 in
theorem ql_w830 : (Jvm.Cond.code ({ cls := "FirstColour", name := "judge", desc := "(I)I" } : Jvm.MethodName) prog_1_method_31_code (3 : Nat) (Option.some Jvm.ClassFile.FieldType.int)) ∈ qm_G := qm_inW (i := 830) (by decide +kernel) rfl
set_option maxRecDepth 100000 in
theorem ql_w840 : (Jvm.Cond.methodLink "FirstColourLaw" (115 : Nat) ({ cls := "FirstColour", name := "plans", desc := "(II)I" } : Jvm.MethodName)) ∈ qm_G := qm_inW (i := 840) (by decide +kernel) rfl
set_option maxRecDepth 100000 in
theorem ql_w841 : (Jvm.Cond.instanceMethod ({ cls := "FirstColour", name := "plans", desc := "(II)I" } : Jvm.MethodName)) ∈ qm_G := qm_inW (i := 841) (by decide +kernel) rfl
set_option maxRecDepth 100000 in
theorem ql_w842 : (Jvm.Cond.selects "FirstColour" ({ cls := "FirstColour", name := "plans", desc := "(II)I" } : Jvm.MethodName) ({ cls := "FirstColour", name := "plans", desc := "(II)I" } : Jvm.MethodName)) ∈ qm_G := qm_inW (i := 842) (by decide +kernel) rfl
set_option maxRecDepth 100000 in
theorem ql_w843 : (Jvm.Cond.code ({ cls := "FirstColour", name := "plans", desc := "(II)I" } : Jvm.MethodName) prog_1_method_34_code (5 : Nat) (Option.some Jvm.ClassFile.FieldType.int)) ∈ qm_G := qm_inW (i := 843) (by decide +kernel) rfl
set_option maxRecDepth 100000 in
theorem ql_w844 : (Jvm.Cond.methodLink "FirstColourLaw" (119 : Nat) ({ cls := "FirstColour", name := "film", desc := "(I)I" } : Jvm.MethodName)) ∈ qm_G := qm_inW (i := 844) (by decide +kernel) rfl
set_option maxRecDepth 100000 in
theorem ql_w845 : (Jvm.Cond.instanceMethod ({ cls := "FirstColour", name := "film", desc := "(I)I" } : Jvm.MethodName)) ∈ qm_G := qm_inW (i := 845) (by decide +kernel) rfl
set_option maxRecDepth 100000 in
theorem ql_w846 : (Jvm.Cond.selects "FirstColour" ({ cls := "FirstColour", name := "film", desc := "(I)I" } : Jvm.MethodName) ({ cls := "FirstColour", name := "film", desc := "(I)I" } : Jvm.MethodName)) ∈ qm_G := qm_inW (i := 846) (by decide +kernel) rfl
set_option maxRecDepth 100000 in
theorem ql_w847 : (Jvm.Cond.code ({ cls := "FirstColour", name := "film", desc := "(I)I" } : Jvm.MethodName) prog_1_method_35_code (3 : Nat) (Option.some Jvm.ClassFile.FieldType.int)) ∈ qm_G := qm_inW (i := 847) (by decide +kernel) rfl
set_option maxRecDepth 100000 in
theorem ql_w856 : (Jvm.Cond.methodLink "FirstColourLaw" (123 : Nat) ({ cls := "FirstColour", name := "laws", desc := "(III)I" } : Jvm.MethodName)) ∈ qm_G := qm_inW (i := 856) (by decide +kernel) rfl
set_option maxRecDepth 100000 in
theorem ql_w857 : (Jvm.Cond.instanceMethod ({ cls := "FirstColour", name := "laws", desc := "(III)I" } : Jvm.MethodName)) ∈ qm_G := qm_inW (i := 857) (by decide +kernel) rfl
set_option maxRecDepth 100000 in
theorem ql_w858 : (Jvm.Cond.selects "FirstColour" ({ cls := "FirstColour", name := "laws", desc := "(III)I" } : Jvm.MethodName) ({ cls := "FirstColour", name := "laws", desc := "(III)I" } : Jvm.MethodName)) ∈ qm_G := qm_inW (i := 858) (by decide +kernel) rfl
set_option maxRecDepth 100000 in
theorem ql_w859 : (Jvm.Cond.code ({ cls := "FirstColour", name := "laws", desc := "(III)I" } : Jvm.MethodName) prog_1_method_36_code (7 : Nat) (Option.some Jvm.ClassFile.FieldType.int)) ∈ qm_G := qm_inW (i := 859) (by decide +kernel) rfl
set_option maxRecDepth 100000 in
theorem ql_w860 : (Jvm.Cond.methodLink "FirstColourLaw" (127 : Nat) ({ cls := "FirstColour", name := "drawn", desc := "(I)I" } : Jvm.MethodName)) ∈ qm_G := qm_inW (i := 860) (by decide +kernel) rfl
set_option maxRecDepth 100000 in
theorem ql_w861 : (Jvm.Cond.instanceMethod ({ cls := "FirstColour", name := "drawn", desc := "(I)I" } : Jvm.MethodName)) ∈ qm_G := qm_inW (i := 861) (by decide +kernel) rfl
set_option maxRecDepth 100000 in
theorem ql_w862 : (Jvm.Cond.selects "FirstColour" ({ cls := "FirstColour", name := "drawn", desc := "(I)I" } : Jvm.MethodName) ({ cls := "FirstColour", name := "drawn", desc := "(I)I" } : Jvm.MethodName)) ∈ qm_G := qm_inW (i := 862) (by decide +kernel) rfl
set_option maxRecDepth 100000 in
theorem ql_w863 : (Jvm.Cond.code ({ cls := "FirstColour", name := "drawn", desc := "(I)I" } : Jvm.MethodName) prog_1_method_37_code (2 : Nat) (Option.some Jvm.ClassFile.FieldType.int)) ∈ qm_G := qm_inW (i := 863) (by decide +kernel) rfl
set_option maxRecDepth 100000 in
theorem ql_w879 : (Jvm.Cond.methodLink "FirstColourLaw" (131 : Nat) ({ cls := "FirstColour", name := "odds", desc := "(IIII)J" } : Jvm.MethodName)) ∈ qm_G := qm_inW (i := 879) (by decide +kernel) rfl
set_option maxRecDepth 100000 in
theorem ql_w880 : (Jvm.Cond.instanceMethod ({ cls := "FirstColour", name := "odds", desc := "(IIII)J" } : Jvm.MethodName)) ∈ qm_G := qm_inW (i := 880) (by decide +kernel) rfl
set_option maxRecDepth 100000 in
theorem ql_w881 : (Jvm.Cond.selects "FirstColour" ({ cls := "FirstColour", name := "odds", desc := "(IIII)J" } : Jvm.MethodName) ({ cls := "FirstColour", name := "odds", desc := "(IIII)J" } : Jvm.MethodName)) ∈ qm_G := qm_inW (i := 881) (by decide +kernel) rfl
set_option maxRecDepth 100000 in
theorem ql_w882 : (Jvm.Cond.code ({ cls := "FirstColour", name := "odds", desc := "(IIII)J" } : Jvm.MethodName) prog_1_method_40_code (7 : Nat) (Option.some Jvm.ClassFile.FieldType.long)) ∈ qm_G := qm_inW (i := 882) (by decide +kernel) rfl
set_option maxRecDepth 100000 in
theorem ql_w887 : (Jvm.Cond.methodLink "FirstColourLaw" (136 : Nat) ({ cls := "FirstColour", name := "image", desc := "()I" } : Jvm.MethodName)) ∈ qm_G := qm_inW (i := 887) (by decide +kernel) rfl
set_option maxRecDepth 100000 in
theorem ql_w888 : (Jvm.Cond.instanceMethod ({ cls := "FirstColour", name := "image", desc := "()I" } : Jvm.MethodName)) ∈ qm_G := qm_inW (i := 888) (by decide +kernel) rfl
set_option maxRecDepth 100000 in
theorem ql_w889 : (Jvm.Cond.selects "FirstColour" ({ cls := "FirstColour", name := "image", desc := "()I" } : Jvm.MethodName) ({ cls := "FirstColour", name := "image", desc := "()I" } : Jvm.MethodName)) ∈ qm_G := qm_inW (i := 889) (by decide +kernel) rfl
set_option maxRecDepth 100000 in
theorem ql_w890 : (Jvm.Cond.code ({ cls := "FirstColour", name := "image", desc := "()I" } : Jvm.MethodName) prog_1_method_42_code (1 : Nat) (Option.some Jvm.ClassFile.FieldType.int)) ∈ qm_G := qm_inW (i := 890) (by decide +kernel) rfl
set_option maxRecDepth 100000 in
theorem ql_w891 : (Jvm.Cond.methodLink "FirstColourLaw" (140 : Nat) ({ cls := "FirstColour", name := "back", desc := "()I" } : Jvm.MethodName)) ∈ qm_G := qm_inW (i := 891) (by decide +kernel) rfl
set_option maxRecDepth 100000 in
theorem ql_w892 : (Jvm.Cond.instanceMethod ({ cls := "FirstColour", name := "back", desc := "()I" } : Jvm.MethodName)) ∈ qm_G := qm_inW (i := 892) (by decide +kernel) rfl
set_option maxRecDepth 100000 in
theorem ql_w893 : (Jvm.Cond.selects "FirstColour" ({ cls := "FirstColour", name := "back", desc := "()I" } : Jvm.MethodName) ({ cls := "FirstColour", name := "back", desc := "()I" } : Jvm.MethodName)) ∈ qm_G := qm_inW (i := 893) (by decide +kernel) rfl
set_option maxRecDepth 100000 in
theorem ql_w894 : (Jvm.Cond.code ({ cls := "FirstColour", name := "back", desc := "()I" } : Jvm.MethodName) prog_1_method_43_code (1 : Nat) (Option.some Jvm.ClassFile.FieldType.int)) ∈ qm_G := qm_inW (i := 894) (by decide +kernel) rfl
set_option maxRecDepth 100000 in
theorem ql_w895 : (Jvm.Cond.methodLink "FirstColourLaw" (144 : Nat) ({ cls := "FirstColour", name := "sheet", desc := "(III)I" } : Jvm.MethodName)) ∈ qm_G := qm_inW (i := 895) (by decide +kernel) rfl
set_option maxRecDepth 100000 in
theorem ql_w896 : (Jvm.Cond.instanceMethod ({ cls := "FirstColour", name := "sheet", desc := "(III)I" } : Jvm.MethodName)) ∈ qm_G := qm_inW (i := 896) (by decide +kernel) rfl
set_option maxRecDepth 100000 in
theorem ql_w897 : (Jvm.Cond.selects "FirstColour" ({ cls := "FirstColour", name := "sheet", desc := "(III)I" } : Jvm.MethodName) ({ cls := "FirstColour", name := "sheet", desc := "(III)I" } : Jvm.MethodName)) ∈ qm_G := qm_inW (i := 897) (by decide +kernel) rfl
set_option maxRecDepth 100000 in
theorem ql_w898 : (Jvm.Cond.code ({ cls := "FirstColour", name := "sheet", desc := "(III)I" } : Jvm.MethodName) prog_1_method_44_code (4 : Nat) (Option.some Jvm.ClassFile.FieldType.int)) ∈ qm_G := qm_inW (i := 898) (by decide +kernel) rfl
set_option maxRecDepth 100000 in
theorem ql_w899 : (Jvm.Cond.methodLink "FirstColourLaw" (148 : Nat) ({ cls := "FirstColour", name := "cell", desc := "(III)I" } : Jvm.MethodName)) ∈ qm_G := qm_inW (i := 899) (by decide +kernel) rfl
set_option maxRecDepth 100000 in
theorem ql_w900 : (Jvm.Cond.instanceMethod ({ cls := "FirstColour", name := "cell", desc := "(III)I" } : Jvm.MethodName)) ∈ qm_G := qm_inW (i := 900) (by decide +kernel) rfl
set_option maxRecDepth 100000 in
theorem ql_w901 : (Jvm.Cond.selects "FirstColour" ({ cls := "FirstColour", name := "cell", desc := "(III)I" } : Jvm.MethodName) ({ cls := "FirstColour", name := "cell", desc := "(III)I" } : Jvm.MethodName)) ∈ qm_G := qm_inW (i := 901) (by decide +kernel) rfl
set_option maxRecDepth 100000 in
theorem ql_w902 : (Jvm.Cond.code ({ cls := "FirstColour", name := "cell", desc := "(III)I" } : Jvm.MethodName) prog_1_method_45_code (4 : Nat) (Option.some Jvm.ClassFile.FieldType.int)) ∈ qm_G := qm_inW (i := 902) (by decide +kernel) rfl
set_option maxRecDepth 100000 in
theorem ql_w904 : (Jvm.Cond.methodLink "FirstColourLaw" (152 : Nat) ({ cls := "FirstColour", name := "copy", desc := "(IIIII)I" } : Jvm.MethodName)) ∈ qm_G := qm_inW (i := 904) (by decide +kernel) rfl
set_option maxRecDepth 100000 in
theorem ql_w905 : (Jvm.Cond.instanceMethod ({ cls := "FirstColour", name := "copy", desc := "(IIIII)I" } : Jvm.MethodName)) ∈ qm_G := qm_inW (i := 905) (by decide +kernel) rfl
set_option maxRecDepth 100000 in
theorem ql_w906 : (Jvm.Cond.selects "FirstColour" ({ cls := "FirstColour", name := "copy", desc := "(IIIII)I" } : Jvm.MethodName) ({ cls := "FirstColour", name := "copy", desc := "(IIIII)I" } : Jvm.MethodName)) ∈ qm_G := qm_inW (i := 906) (by decide +kernel) rfl
set_option maxRecDepth 100000 in
theorem ql_w907 : (Jvm.Cond.code ({ cls := "FirstColour", name := "copy", desc := "(IIIII)I" } : Jvm.MethodName) prog_1_method_46_code (6 : Nat) (Option.some Jvm.ClassFile.FieldType.int)) ∈ qm_G := qm_inW (i := 907) (by decide +kernel) rfl
set_option maxRecDepth 100000 in
theorem ql_w913 : (Jvm.Cond.methodLink "FirstColourLaw" (157 : Nat) ({ cls := "FirstColour", name := "lotsBy", desc := "(IIII)I" } : Jvm.MethodName)) ∈ qm_G := qm_inW (i := 913) (by decide +kernel) rfl
set_option maxRecDepth 100000 in
theorem ql_w914 : (Jvm.Cond.instanceMethod ({ cls := "FirstColour", name := "lotsBy", desc := "(IIII)I" } : Jvm.MethodName)) ∈ qm_G := qm_inW (i := 914) (by decide +kernel) rfl
set_option maxRecDepth 100000 in
theorem ql_w915 : (Jvm.Cond.selects "FirstColour" ({ cls := "FirstColour", name := "lotsBy", desc := "(IIII)I" } : Jvm.MethodName) ({ cls := "FirstColour", name := "lotsBy", desc := "(IIII)I" } : Jvm.MethodName)) ∈ qm_G := qm_inW (i := 915) (by decide +kernel) rfl
set_option maxRecDepth 100000 in
theorem ql_w916 : (Jvm.Cond.code ({ cls := "FirstColour", name := "lotsBy", desc := "(IIII)I" } : Jvm.MethodName) prog_1_method_47_code (9 : Nat) (Option.some Jvm.ClassFile.FieldType.int)) ∈ qm_G := qm_inW (i := 916) (by decide +kernel) rfl
set_option maxRecDepth 100000 in
theorem ql_w918 : (Jvm.Cond.methodLink "FirstColourLaw" (161 : Nat) ({ cls := "FirstColour", name := "taken", desc := "(II)I" } : Jvm.MethodName)) ∈ qm_G := qm_inW (i := 918) (by decide +kernel) rfl
set_option maxRecDepth 100000 in
theorem ql_w919 : (Jvm.Cond.instanceMethod ({ cls := "FirstColour", name := "taken", desc := "(II)I" } : Jvm.MethodName)) ∈ qm_G := qm_inW (i := 919) (by decide +kernel) rfl
set_option maxRecDepth 100000 in
theorem ql_w920 : (Jvm.Cond.selects "FirstColour" ({ cls := "FirstColour", name := "taken", desc := "(II)I" } : Jvm.MethodName) ({ cls := "FirstColour", name := "taken", desc := "(II)I" } : Jvm.MethodName)) ∈ qm_G := qm_inW (i := 920) (by decide +kernel) rfl
set_option maxRecDepth 100000 in
theorem ql_w921 : (Jvm.Cond.code ({ cls := "FirstColour", name := "taken", desc := "(II)I" } : Jvm.MethodName) prog_1_method_48_code (5 : Nat) (Option.some Jvm.ClassFile.FieldType.int)) ∈ qm_G := qm_inW (i := 921) (by decide +kernel) rfl
set_option maxRecDepth 100000 in
theorem ql_w1096 : (Jvm.Cond.methodLink "FirstColourLaw" (17 : Nat) ({ cls := "FirstColourModel", name := "count", desc := "(I)I" } : Jvm.MethodName)) ∈ qm_G := qm_inW (i := 1096) (by decide +kernel) rfl
set_option maxRecDepth 100000 in
theorem ql_w1097 : (Jvm.Cond.instanceMethod ({ cls := "FirstColourModel", name := "count", desc := "(I)I" } : Jvm.MethodName)) ∈ qm_G := qm_inW (i := 1097) (by decide +kernel) rfl
set_option maxRecDepth 100000 in
theorem ql_w1098 : (Jvm.Cond.selects "FirstColourModel" ({ cls := "FirstColourModel", name := "count", desc := "(I)I" } : Jvm.MethodName) ({ cls := "FirstColourModel", name := "count", desc := "(I)I" } : Jvm.MethodName)) ∈ qm_G := qm_inW (i := 1098) (by decide +kernel) rfl
set_option maxRecDepth 100000 in
theorem ql_w1099 : (Jvm.Cond.code ({ cls := "FirstColourModel", name := "count", desc := "(I)I" } : Jvm.MethodName) prog_11_method_14_code (2 : Nat) (Option.some Jvm.ClassFile.FieldType.int)) ∈ qm_G := qm_inW (i := 1099) (by decide +kernel) rfl
set_option maxRecDepth 100000 in
theorem ql_w1119 : (Jvm.Cond.methodLink "FirstColourLaw" (22 : Nat) ({ cls := "FirstColourModel", name := "feed", desc := "(IIIIII)I" } : Jvm.MethodName)) ∈ qm_G := qm_inW (i := 1119) (by decide +kernel) rfl
set_option maxRecDepth 100000 in
theorem ql_w1120 : (Jvm.Cond.instanceMethod ({ cls := "FirstColourModel", name := "feed", desc := "(IIIIII)I" } : Jvm.MethodName)) ∈ qm_G := qm_inW (i := 1120) (by decide +kernel) rfl
set_option maxRecDepth 100000 in
theorem ql_w1121 : (Jvm.Cond.selects "FirstColourModel" ({ cls := "FirstColourModel", name := "feed", desc := "(IIIIII)I" } : Jvm.MethodName) ({ cls := "FirstColourModel", name := "feed", desc := "(IIIIII)I" } : Jvm.MethodName)) ∈ qm_G := qm_inW (i := 1121) (by decide +kernel) rfl
set_option maxRecDepth 100000 in
theorem ql_w1122 : (Jvm.Cond.code ({ cls := "FirstColourModel", name := "feed", desc := "(IIIIII)I" } : Jvm.MethodName) prog_11_method_16_code (8 : Nat) (Option.some Jvm.ClassFile.FieldType.int)) ∈ qm_G := qm_inW (i := 1122) (by decide +kernel) rfl
set_option maxRecDepth 100000 in
theorem ql_w1126 : (Jvm.Cond.methodLink "FirstColourLaw" (27 : Nat) ({ cls := "FirstColourModel", name := "text", desc := "()I" } : Jvm.MethodName)) ∈ qm_G := qm_inW (i := 1126) (by decide +kernel) rfl
set_option maxRecDepth 100000 in
theorem ql_w1127 : (Jvm.Cond.methodLink "FirstColourLaw" (31 : Nat) ({ cls := "FirstColourModel", name := "force", desc := "(I)I" } : Jvm.MethodName)) ∈ qm_G := qm_inW (i := 1127) (by decide +kernel) rfl
set_option maxRecDepth 100000 in
theorem ql_w1128 : (Jvm.Cond.instanceMethod ({ cls := "FirstColourModel", name := "force", desc := "(I)I" } : Jvm.MethodName)) ∈ qm_G := qm_inW (i := 1128) (by decide +kernel) rfl
set_option maxRecDepth 100000 in
theorem ql_w1129 : (Jvm.Cond.selects "FirstColourModel" ({ cls := "FirstColourModel", name := "force", desc := "(I)I" } : Jvm.MethodName) ({ cls := "FirstColourModel", name := "force", desc := "(I)I" } : Jvm.MethodName)) ∈ qm_G := qm_inW (i := 1129) (by decide +kernel) rfl
set_option maxRecDepth 100000 in
theorem ql_w1130 : (Jvm.Cond.code ({ cls := "FirstColourModel", name := "force", desc := "(I)I" } : Jvm.MethodName) prog_11_method_30_code (3 : Nat) (Option.some Jvm.ClassFile.FieldType.int)) ∈ qm_G := qm_inW (i := 1130) (by decide +kernel) rfl
set_option maxRecDepth 100000 in
theorem ql_w1131 : (Jvm.Cond.methodLink "FirstColourLaw" (36 : Nat) ({ cls := "FirstColourModel", name := "asks", desc := "(IIII)I" } : Jvm.MethodName)) ∈ qm_G := qm_inW (i := 1131) (by decide +kernel) rfl
set_option maxRecDepth 100000 in
theorem ql_w1132 : (Jvm.Cond.instanceMethod ({ cls := "FirstColourModel", name := "asks", desc := "(IIII)I" } : Jvm.MethodName)) ∈ qm_G := qm_inW (i := 1132) (by decide +kernel) rfl
set_option maxRecDepth 100000 in
theorem ql_w1133 : (Jvm.Cond.selects "FirstColourModel" ({ cls := "FirstColourModel", name := "asks", desc := "(IIII)I" } : Jvm.MethodName) ({ cls := "FirstColourModel", name := "asks", desc := "(IIII)I" } : Jvm.MethodName)) ∈ qm_G := qm_inW (i := 1133) (by decide +kernel) rfl
set_option maxRecDepth 100000 in
theorem ql_w1134 : (Jvm.Cond.code ({ cls := "FirstColourModel", name := "asks", desc := "(IIII)I" } : Jvm.MethodName) prog_11_method_32_code (5 : Nat) (Option.some Jvm.ClassFile.FieldType.int)) ∈ qm_G := qm_inW (i := 1134) (by decide +kernel) rfl
set_option maxRecDepth 100000 in
theorem ql_w1153 : (Jvm.Cond.methodLink "FirstColourLaw" (41 : Nat) ({ cls := "FirstColourModel", name := "lot", desc := "(III)I" } : Jvm.MethodName)) ∈ qm_G := qm_inW (i := 1153) (by decide +kernel) rfl
set_option maxRecDepth 100000 in
theorem ql_w1161 : (Jvm.Cond.methodLink "FirstColourLaw" (46 : Nat) ({ cls := "FirstColourModel", name := "told", desc := "(II)I" } : Jvm.MethodName)) ∈ qm_G := qm_inW (i := 1161) (by decide +kernel) rfl
set_option maxRecDepth 100000 in
theorem ql_w1162 : (Jvm.Cond.instanceMethod ({ cls := "FirstColourModel", name := "told", desc := "(II)I" } : Jvm.MethodName)) ∈ qm_G := qm_inW (i := 1162) (by decide +kernel) rfl
set_option maxRecDepth 100000 in
theorem ql_w1163 : (Jvm.Cond.selects "FirstColourModel" ({ cls := "FirstColourModel", name := "told", desc := "(II)I" } : Jvm.MethodName) ({ cls := "FirstColourModel", name := "told", desc := "(II)I" } : Jvm.MethodName)) ∈ qm_G := qm_inW (i := 1163) (by decide +kernel) rfl
set_option maxRecDepth 100000 in
theorem ql_w1164 : (Jvm.Cond.code ({ cls := "FirstColourModel", name := "told", desc := "(II)I" } : Jvm.MethodName) prog_11_method_34_code (3 : Nat) (Option.some Jvm.ClassFile.FieldType.int)) ∈ qm_G := qm_inW (i := 1164) (by decide +kernel) rfl
set_option maxRecDepth 100000 in
theorem ql_w1165 : (Jvm.Cond.methodLink "FirstColourLaw" (50 : Nat) ({ cls := "FirstColourModel", name := "build", desc := "(I)I" } : Jvm.MethodName)) ∈ qm_G := qm_inW (i := 1165) (by decide +kernel) rfl
set_option maxRecDepth 100000 in
theorem ql_w1166 : (Jvm.Cond.instanceMethod ({ cls := "FirstColourModel", name := "build", desc := "(I)I" } : Jvm.MethodName)) ∈ qm_G := qm_inW (i := 1166) (by decide +kernel) rfl
set_option maxRecDepth 100000 in
theorem ql_w1167 : (Jvm.Cond.selects "FirstColourModel" ({ cls := "FirstColourModel", name := "build", desc := "(I)I" } : Jvm.MethodName) ({ cls := "FirstColourModel", name := "build", desc := "(I)I" } : Jvm.MethodName)) ∈ qm_G := qm_inW (i := 1167) (by decide +kernel) rfl
set_option maxRecDepth 100000 in
theorem ql_w1168 : (Jvm.Cond.code ({ cls := "FirstColourModel", name := "build", desc := "(I)I" } : Jvm.MethodName) prog_11_method_40_code (2 : Nat) (Option.some Jvm.ClassFile.FieldType.int)) ∈ qm_G := qm_inW (i := 1168) (by decide +kernel) rfl
set_option maxRecDepth 100000 in
theorem ql_w1191 : (Jvm.Cond.methodLink "FirstColourLaw" (54 : Nat) ({ cls := "FirstColourModel", name := "would", desc := "(I)I" } : Jvm.MethodName)) ∈ qm_G := qm_inW (i := 1191) (by decide +kernel) rfl
set_option maxRecDepth 100000 in
theorem ql_w1192 : (Jvm.Cond.instanceMethod ({ cls := "FirstColourModel", name := "would", desc := "(I)I" } : Jvm.MethodName)) ∈ qm_G := qm_inW (i := 1192) (by decide +kernel) rfl
set_option maxRecDepth 100000 in
theorem ql_w1193 : (Jvm.Cond.selects "FirstColourModel" ({ cls := "FirstColourModel", name := "would", desc := "(I)I" } : Jvm.MethodName) ({ cls := "FirstColourModel", name := "would", desc := "(I)I" } : Jvm.MethodName)) ∈ qm_G := qm_inW (i := 1193) (by decide +kernel) rfl
set_option maxRecDepth 100000 in
theorem ql_w1194 : (Jvm.Cond.code ({ cls := "FirstColourModel", name := "would", desc := "(I)I" } : Jvm.MethodName) prog_11_method_41_code (2 : Nat) (Option.some Jvm.ClassFile.FieldType.int)) ∈ qm_G := qm_inW (i := 1194) (by decide +kernel) rfl
set_option maxRecDepth 100000 in
theorem ql_w1195 : (Jvm.Cond.methodLink "FirstColourLaw" (58 : Nat) ({ cls := "FirstColourModel", name := "pull", desc := "(I)I" } : Jvm.MethodName)) ∈ qm_G := qm_inW (i := 1195) (by decide +kernel) rfl
set_option maxRecDepth 100000 in
theorem ql_w1196 : (Jvm.Cond.instanceMethod ({ cls := "FirstColourModel", name := "pull", desc := "(I)I" } : Jvm.MethodName)) ∈ qm_G := qm_inW (i := 1196) (by decide +kernel) rfl
set_option maxRecDepth 100000 in
theorem ql_w1197 : (Jvm.Cond.selects "FirstColourModel" ({ cls := "FirstColourModel", name := "pull", desc := "(I)I" } : Jvm.MethodName) ({ cls := "FirstColourModel", name := "pull", desc := "(I)I" } : Jvm.MethodName)) ∈ qm_G := qm_inW (i := 1197) (by decide +kernel) rfl
set_option maxRecDepth 100000 in
theorem ql_w1198 : (Jvm.Cond.code ({ cls := "FirstColourModel", name := "pull", desc := "(I)I" } : Jvm.MethodName) prog_11_method_42_code (3 : Nat) (Option.some Jvm.ClassFile.FieldType.int)) ∈ qm_G := qm_inW (i := 1198) (by decide +kernel) rfl
set_option maxRecDepth 100000 in
theorem ql_w1199 : (Jvm.Cond.methodLink "FirstColourLaw" (62 : Nat) ({ cls := "FirstColourModel", name := "paint", desc := "(II)I" } : Jvm.MethodName)) ∈ qm_G := qm_inW (i := 1199) (by decide +kernel) rfl
set_option maxRecDepth 100000 in
theorem ql_w1200 : (Jvm.Cond.instanceMethod ({ cls := "FirstColourModel", name := "paint", desc := "(II)I" } : Jvm.MethodName)) ∈ qm_G := qm_inW (i := 1200) (by decide +kernel) rfl
set_option maxRecDepth 100000 in
theorem ql_w1201 : (Jvm.Cond.selects "FirstColourModel" ({ cls := "FirstColourModel", name := "paint", desc := "(II)I" } : Jvm.MethodName) ({ cls := "FirstColourModel", name := "paint", desc := "(II)I" } : Jvm.MethodName)) ∈ qm_G := qm_inW (i := 1201) (by decide +kernel) rfl
set_option maxRecDepth 100000 in
theorem ql_w1202 : (Jvm.Cond.code ({ cls := "FirstColourModel", name := "paint", desc := "(II)I" } : Jvm.MethodName) prog_11_method_43_code (4 : Nat) (Option.some Jvm.ClassFile.FieldType.int)) ∈ qm_G := qm_inW (i := 1202) (by decide +kernel) rfl
set_option maxRecDepth 100000 in
theorem ql_w1203 : (Jvm.Cond.methodLink "FirstColourLaw" (66 : Nat) ({ cls := "FirstColourModel", name := "lane", desc := "(II)I" } : Jvm.MethodName)) ∈ qm_G := qm_inW (i := 1203) (by decide +kernel) rfl
set_option maxRecDepth 100000 in
theorem ql_w1204 : (Jvm.Cond.instanceMethod ({ cls := "FirstColourModel", name := "lane", desc := "(II)I" } : Jvm.MethodName)) ∈ qm_G := qm_inW (i := 1204) (by decide +kernel) rfl
set_option maxRecDepth 100000 in
theorem ql_w1205 : (Jvm.Cond.selects "FirstColourModel" ({ cls := "FirstColourModel", name := "lane", desc := "(II)I" } : Jvm.MethodName) ({ cls := "FirstColourModel", name := "lane", desc := "(II)I" } : Jvm.MethodName)) ∈ qm_G := qm_inW (i := 1205) (by decide +kernel) rfl
set_option maxRecDepth 100000 in
theorem ql_w1206 : (Jvm.Cond.code ({ cls := "FirstColourModel", name := "lane", desc := "(II)I" } : Jvm.MethodName) prog_11_method_50_code (3 : Nat) (Option.some Jvm.ClassFile.FieldType.int)) ∈ qm_G := qm_inW (i := 1206) (by decide +kernel) rfl
set_option maxRecDepth 100000 in
theorem ql_w1227 : (Jvm.Cond.methodLink "FirstColourLaw" (70 : Nat) ({ cls := "FirstColourModel", name := "close", desc := "(II)I" } : Jvm.MethodName)) ∈ qm_G := qm_inW (i := 1227) (by decide +kernel) rfl
set_option maxRecDepth 100000 in
theorem ql_w1228 : (Jvm.Cond.instanceMethod ({ cls := "FirstColourModel", name := "close", desc := "(II)I" } : Jvm.MethodName)) ∈ qm_G := qm_inW (i := 1228) (by decide +kernel) rfl
set_option maxRecDepth 100000 in
theorem ql_w1229 : (Jvm.Cond.selects "FirstColourModel" ({ cls := "FirstColourModel", name := "close", desc := "(II)I" } : Jvm.MethodName) ({ cls := "FirstColourModel", name := "close", desc := "(II)I" } : Jvm.MethodName)) ∈ qm_G := qm_inW (i := 1229) (by decide +kernel) rfl
set_option maxRecDepth 100000 in
theorem ql_w1230 : (Jvm.Cond.code ({ cls := "FirstColourModel", name := "close", desc := "(II)I" } : Jvm.MethodName) prog_11_method_51_code (4 : Nat) (Option.some Jvm.ClassFile.FieldType.int)) ∈ qm_G := qm_inW (i := 1230) (by decide +kernel) rfl
set_option maxRecDepth 100000 in
theorem ql_w1231 : (Jvm.Cond.methodLink "FirstColourLaw" (74 : Nat) ({ cls := "FirstColourModel", name := "idle", desc := "(I)I" } : Jvm.MethodName)) ∈ qm_G := qm_inW (i := 1231) (by decide +kernel) rfl
set_option maxRecDepth 100000 in
theorem ql_w1232 : (Jvm.Cond.instanceMethod ({ cls := "FirstColourModel", name := "idle", desc := "(I)I" } : Jvm.MethodName)) ∈ qm_G := qm_inW (i := 1232) (by decide +kernel) rfl
set_option maxRecDepth 100000 in
theorem ql_w1233 : (Jvm.Cond.selects "FirstColourModel" ({ cls := "FirstColourModel", name := "idle", desc := "(I)I" } : Jvm.MethodName) ({ cls := "FirstColourModel", name := "idle", desc := "(I)I" } : Jvm.MethodName)) ∈ qm_G := qm_inW (i := 1233) (by decide +kernel) rfl
set_option maxRecDepth 100000 in
theorem ql_w1234 : (Jvm.Cond.code ({ cls := "FirstColourModel", name := "idle", desc := "(I)I" } : Jvm.MethodName) prog_11_method_53_code (8 : Nat) (Option.some Jvm.ClassFile.FieldType.int)) ∈ qm_G := qm_inW (i := 1234) (by decide +kernel) rfl
set_option maxRecDepth 100000 in
theorem ql_w1247 : (Jvm.Cond.methodLink "FirstColourLaw" (78 : Nat) ({ cls := "FirstColourModel", name := "order", desc := "(II)I" } : Jvm.MethodName)) ∈ qm_G := qm_inW (i := 1247) (by decide +kernel) rfl
set_option maxRecDepth 100000 in
theorem ql_w1248 : (Jvm.Cond.instanceMethod ({ cls := "FirstColourModel", name := "order", desc := "(II)I" } : Jvm.MethodName)) ∈ qm_G := qm_inW (i := 1248) (by decide +kernel) rfl
set_option maxRecDepth 100000 in
theorem ql_w1249 : (Jvm.Cond.selects "FirstColourModel" ({ cls := "FirstColourModel", name := "order", desc := "(II)I" } : Jvm.MethodName) ({ cls := "FirstColourModel", name := "order", desc := "(II)I" } : Jvm.MethodName)) ∈ qm_G := qm_inW (i := 1249) (by decide +kernel) rfl
set_option maxRecDepth 100000 in
theorem ql_w1250 : (Jvm.Cond.code ({ cls := "FirstColourModel", name := "order", desc := "(II)I" } : Jvm.MethodName) prog_11_method_61_code (8 : Nat) (Option.some Jvm.ClassFile.FieldType.int)) ∈ qm_G := qm_inW (i := 1250) (by decide +kernel) rfl
set_option maxRecDepth 100000 in
theorem ql_w1279 : (Jvm.Cond.methodLink "FirstColourLaw" (82 : Nat) ({ cls := "FirstColourModel", name := "fewest", desc := "()I" } : Jvm.MethodName)) ∈ qm_G := qm_inW (i := 1279) (by decide +kernel) rfl
set_option maxRecDepth 100000 in
theorem ql_w1280 : (Jvm.Cond.instanceMethod ({ cls := "FirstColourModel", name := "fewest", desc := "()I" } : Jvm.MethodName)) ∈ qm_G := qm_inW (i := 1280) (by decide +kernel) rfl
set_option maxRecDepth 100000 in
theorem ql_w1281 : (Jvm.Cond.selects "FirstColourModel" ({ cls := "FirstColourModel", name := "fewest", desc := "()I" } : Jvm.MethodName) ({ cls := "FirstColourModel", name := "fewest", desc := "()I" } : Jvm.MethodName)) ∈ qm_G := qm_inW (i := 1281) (by decide +kernel) rfl
set_option maxRecDepth 100000 in
theorem ql_w1282 : (Jvm.Cond.code ({ cls := "FirstColourModel", name := "fewest", desc := "()I" } : Jvm.MethodName) prog_11_method_63_code (2 : Nat) (Option.some Jvm.ClassFile.FieldType.int)) ∈ qm_G := qm_inW (i := 1282) (by decide +kernel) rfl
set_option maxRecDepth 100000 in
theorem ql_w1287 : (Jvm.Cond.methodLink "FirstColourLaw" (86 : Nat) ({ cls := "FirstColourModel", name := "paints", desc := "(II)I" } : Jvm.MethodName)) ∈ qm_G := qm_inW (i := 1287) (by decide +kernel) rfl
set_option maxRecDepth 100000 in
theorem ql_w1288 : (Jvm.Cond.instanceMethod ({ cls := "FirstColourModel", name := "paints", desc := "(II)I" } : Jvm.MethodName)) ∈ qm_G := qm_inW (i := 1288) (by decide +kernel) rfl
set_option maxRecDepth 100000 in
theorem ql_w1289 : (Jvm.Cond.selects "FirstColourModel" ({ cls := "FirstColourModel", name := "paints", desc := "(II)I" } : Jvm.MethodName) ({ cls := "FirstColourModel", name := "paints", desc := "(II)I" } : Jvm.MethodName)) ∈ qm_G := qm_inW (i := 1289) (by decide +kernel) rfl
set_option maxRecDepth 100000 in
theorem ql_w1290 : (Jvm.Cond.code ({ cls := "FirstColourModel", name := "paints", desc := "(II)I" } : Jvm.MethodName) prog_11_method_65_code (5 : Nat) (Option.some Jvm.ClassFile.FieldType.int)) ∈ qm_G := qm_inW (i := 1290) (by decide +kernel) rfl
set_option maxRecDepth 100000 in
theorem ql_w1295 : (Jvm.Cond.methodLink "FirstColourLaw" (90 : Nat) ({ cls := "FirstColourModel", name := "raise", desc := "(I)I" } : Jvm.MethodName)) ∈ qm_G := qm_inW (i := 1295) (by decide +kernel) rfl
set_option maxRecDepth 100000 in
theorem ql_w1296 : (Jvm.Cond.instanceMethod ({ cls := "FirstColourModel", name := "raise", desc := "(I)I" } : Jvm.MethodName)) ∈ qm_G := qm_inW (i := 1296) (by decide +kernel) rfl
set_option maxRecDepth 100000 in
theorem ql_w1297 : (Jvm.Cond.selects "FirstColourModel" ({ cls := "FirstColourModel", name := "raise", desc := "(I)I" } : Jvm.MethodName) ({ cls := "FirstColourModel", name := "raise", desc := "(I)I" } : Jvm.MethodName)) ∈ qm_G := qm_inW (i := 1297) (by decide +kernel) rfl
set_option maxRecDepth 100000 in
theorem ql_w1298 : (Jvm.Cond.code ({ cls := "FirstColourModel", name := "raise", desc := "(I)I" } : Jvm.MethodName) prog_11_method_66_code (3 : Nat) (Option.some Jvm.ClassFile.FieldType.int)) ∈ qm_G := qm_inW (i := 1298) (by decide +kernel) rfl
set_option maxRecDepth 100000 in
theorem ql_w1299 : (Jvm.Cond.methodLink "FirstColourLaw" (94 : Nat) ({ cls := "FirstColourModel", name := "when", desc := "(III)I" } : Jvm.MethodName)) ∈ qm_G := qm_inW (i := 1299) (by decide +kernel) rfl
set_option maxRecDepth 100000 in
theorem ql_w1300 : (Jvm.Cond.instanceMethod ({ cls := "FirstColourModel", name := "when", desc := "(III)I" } : Jvm.MethodName)) ∈ qm_G := qm_inW (i := 1300) (by decide +kernel) rfl
set_option maxRecDepth 100000 in
theorem ql_w1301 : (Jvm.Cond.selects "FirstColourModel" ({ cls := "FirstColourModel", name := "when", desc := "(III)I" } : Jvm.MethodName) ({ cls := "FirstColourModel", name := "when", desc := "(III)I" } : Jvm.MethodName)) ∈ qm_G := qm_inW (i := 1301) (by decide +kernel) rfl
set_option maxRecDepth 100000 in
theorem ql_w1302 : (Jvm.Cond.code ({ cls := "FirstColourModel", name := "when", desc := "(III)I" } : Jvm.MethodName) prog_11_method_68_code (9 : Nat) (Option.some Jvm.ClassFile.FieldType.int)) ∈ qm_G := qm_inW (i := 1302) (by decide +kernel) rfl
set_option maxRecDepth 100000 in
theorem ql_w1307 : (Jvm.Cond.methodLink "FirstColourLaw" (98 : Nat) ({ cls := "FirstColourModel", name := "rule", desc := "(II)I" } : Jvm.MethodName)) ∈ qm_G := qm_inW (i := 1307) (by decide +kernel) rfl
set_option maxRecDepth 100000 in
theorem ql_w1308 : (Jvm.Cond.instanceMethod ({ cls := "FirstColourModel", name := "rule", desc := "(II)I" } : Jvm.MethodName)) ∈ qm_G := qm_inW (i := 1308) (by decide +kernel) rfl
set_option maxRecDepth 100000 in
theorem ql_w1309 : (Jvm.Cond.selects "FirstColourModel" ({ cls := "FirstColourModel", name := "rule", desc := "(II)I" } : Jvm.MethodName) ({ cls := "FirstColourModel", name := "rule", desc := "(II)I" } : Jvm.MethodName)) ∈ qm_G := qm_inW (i := 1309) (by decide +kernel) rfl
set_option maxRecDepth 100000 in
theorem ql_w1310 : (Jvm.Cond.code ({ cls := "FirstColourModel", name := "rule", desc := "(II)I" } : Jvm.MethodName) prog_11_method_70_code (3 : Nat) (Option.some Jvm.ClassFile.FieldType.int)) ∈ qm_G := qm_inW (i := 1310) (by decide +kernel) rfl
set_option maxRecDepth 100000 in
theorem ql_w1315 : (Jvm.Cond.methodLink "FirstColourLaw" (102 : Nat) ({ cls := "FirstColourModel", name := "ahead", desc := "(II)I" } : Jvm.MethodName)) ∈ qm_G := qm_inW (i := 1315) (by decide +kernel) rfl
set_option maxRecDepth 100000 in
theorem ql_w1316 : (Jvm.Cond.instanceMethod ({ cls := "FirstColourModel", name := "ahead", desc := "(II)I" } : Jvm.MethodName)) ∈ qm_G := qm_inW (i := 1316) (by decide +kernel) rfl
set_option maxRecDepth 100000 in
theorem ql_w1317 : (Jvm.Cond.selects "FirstColourModel" ({ cls := "FirstColourModel", name := "ahead", desc := "(II)I" } : Jvm.MethodName) ({ cls := "FirstColourModel", name := "ahead", desc := "(II)I" } : Jvm.MethodName)) ∈ qm_G := qm_inW (i := 1317) (by decide +kernel) rfl
set_option maxRecDepth 100000 in
theorem ql_w1318 : (Jvm.Cond.code ({ cls := "FirstColourModel", name := "ahead", desc := "(II)I" } : Jvm.MethodName) prog_11_method_73_code (4 : Nat) (Option.some Jvm.ClassFile.FieldType.int)) ∈ qm_G := qm_inW (i := 1318) (by decide +kernel) rfl
set_option maxRecDepth 100000 in
theorem ql_w1328 : (Jvm.Cond.methodLink "FirstColourLaw" (106 : Nat) ({ cls := "FirstColourModel", name := "built", desc := "(I)I" } : Jvm.MethodName)) ∈ qm_G := qm_inW (i := 1328) (by decide +kernel) rfl
set_option maxRecDepth 100000 in
theorem ql_w1329 : (Jvm.Cond.instanceMethod ({ cls := "FirstColourModel", name := "built", desc := "(I)I" } : Jvm.MethodName)) ∈ qm_G := qm_inW (i := 1329) (by decide +kernel) rfl
set_option maxRecDepth 100000 in
theorem ql_w1330 : (Jvm.Cond.selects "FirstColourModel" ({ cls := "FirstColourModel", name := "built", desc := "(I)I" } : Jvm.MethodName) ({ cls := "FirstColourModel", name := "built", desc := "(I)I" } : Jvm.MethodName)) ∈ qm_G := qm_inW (i := 1330) (by decide +kernel) rfl
set_option maxRecDepth 100000 in
theorem ql_w1331 : (Jvm.Cond.code ({ cls := "FirstColourModel", name := "built", desc := "(I)I" } : Jvm.MethodName) prog_11_method_76_code (3 : Nat) (Option.some Jvm.ClassFile.FieldType.int)) ∈ qm_G := qm_inW (i := 1331) (by decide +kernel) rfl
set_option maxRecDepth 100000 in
theorem ql_w1340 : (Jvm.Cond.methodLink "FirstColourLaw" (110 : Nat) ({ cls := "FirstColourModel", name := "blame", desc := "()I" } : Jvm.MethodName)) ∈ qm_G := qm_inW (i := 1340) (by decide +kernel) rfl
set_option maxRecDepth 100000 in
theorem ql_w1341 : (Jvm.Cond.instanceMethod ({ cls := "FirstColourModel", name := "blame", desc := "()I" } : Jvm.MethodName)) ∈ qm_G := qm_inW (i := 1341) (by decide +kernel) rfl
set_option maxRecDepth 100000 in
theorem ql_w1342 : (Jvm.Cond.selects "FirstColourModel" ({ cls := "FirstColourModel", name := "blame", desc := "()I" } : Jvm.MethodName) ({ cls := "FirstColourModel", name := "blame", desc := "()I" } : Jvm.MethodName)) ∈ qm_G := qm_inW (i := 1342) (by decide +kernel) rfl
set_option maxRecDepth 100000 in
theorem ql_w1343 : (Jvm.Cond.code ({ cls := "FirstColourModel", name := "blame", desc := "()I" } : Jvm.MethodName) prog_11_method_77_code (4 : Nat) (Option.some Jvm.ClassFile.FieldType.int)) ∈ qm_G := qm_inW (i := 1343) (by decide +kernel) rfl
set_option maxRecDepth 100000 in
theorem ql_w1344 : (Jvm.Cond.methodLink "FirstColourLaw" (114 : Nat) ({ cls := "FirstColourModel", name := "judge", desc := "(I)I" } : Jvm.MethodName)) ∈ qm_G := qm_inW (i := 1344) (by decide +kernel) rfl
set_option maxRecDepth 100000 in
theorem ql_w1345 : (Jvm.Cond.instanceMethod ({ cls := "FirstColourModel", name := "judge", desc := "(I)I" } : Jvm.MethodName)) ∈ qm_G := qm_inW (i := 1345) (by decide +kernel) rfl
set_option maxRecDepth 100000 in
theorem ql_w1346 : (Jvm.Cond.selects "FirstColourModel" ({ cls := "FirstColourModel", name := "judge", desc := "(I)I" } : Jvm.MethodName) ({ cls := "FirstColourModel", name := "judge", desc := "(I)I" } : Jvm.MethodName)) ∈ qm_G := qm_inW (i := 1346) (by decide +kernel) rfl
set_option maxRecDepth 100000 in
theorem ql_w1347 : (Jvm.Cond.code ({ cls := "FirstColourModel", name := "judge", desc := "(I)I" } : Jvm.MethodName) prog_11_method_80_code (3 : Nat) (Option.some Jvm.ClassFile.FieldType.int)) ∈ qm_G := qm_inW (i := 1347) (by decide +kernel) rfl
set_option maxRecDepth 100000 in
theorem ql_w1356 : (Jvm.Cond.methodLink "FirstColourLaw" (118 : Nat) ({ cls := "FirstColourModel", name := "plans", desc := "(II)I" } : Jvm.MethodName)) ∈ qm_G := qm_inW (i := 1356) (by decide +kernel) rfl
set_option maxRecDepth 100000 in
theorem ql_w1357 : (Jvm.Cond.instanceMethod ({ cls := "FirstColourModel", name := "plans", desc := "(II)I" } : Jvm.MethodName)) ∈ qm_G := qm_inW (i := 1357) (by decide +kernel) rfl
set_option maxRecDepth 100000 in
theorem ql_w1358 : (Jvm.Cond.selects "FirstColourModel" ({ cls := "FirstColourModel", name := "plans", desc := "(II)I" } : Jvm.MethodName) ({ cls := "FirstColourModel", name := "plans", desc := "(II)I" } : Jvm.MethodName)) ∈ qm_G := qm_inW (i := 1358) (by decide +kernel) rfl
set_option maxRecDepth 100000 in
theorem ql_w1359 : (Jvm.Cond.code ({ cls := "FirstColourModel", name := "plans", desc := "(II)I" } : Jvm.MethodName) prog_11_method_82_code (7 : Nat) (Option.some Jvm.ClassFile.FieldType.int)) ∈ qm_G := qm_inW (i := 1359) (by decide +kernel) rfl
set_option maxRecDepth 100000 in
theorem ql_w1364 : (Jvm.Cond.methodLink "FirstColourLaw" (122 : Nat) ({ cls := "FirstColourModel", name := "film", desc := "(I)I" } : Jvm.MethodName)) ∈ qm_G := qm_inW (i := 1364) (by decide +kernel) rfl
set_option maxRecDepth 100000 in
theorem ql_w1365 : (Jvm.Cond.instanceMethod ({ cls := "FirstColourModel", name := "film", desc := "(I)I" } : Jvm.MethodName)) ∈ qm_G := qm_inW (i := 1365) (by decide +kernel) rfl
set_option maxRecDepth 100000 in
theorem ql_w1366 : (Jvm.Cond.selects "FirstColourModel" ({ cls := "FirstColourModel", name := "film", desc := "(I)I" } : Jvm.MethodName) ({ cls := "FirstColourModel", name := "film", desc := "(I)I" } : Jvm.MethodName)) ∈ qm_G := qm_inW (i := 1366) (by decide +kernel) rfl
set_option maxRecDepth 100000 in
theorem ql_w1367 : (Jvm.Cond.code ({ cls := "FirstColourModel", name := "film", desc := "(I)I" } : Jvm.MethodName) prog_11_method_83_code (3 : Nat) (Option.some Jvm.ClassFile.FieldType.int)) ∈ qm_G := qm_inW (i := 1367) (by decide +kernel) rfl
set_option maxRecDepth 100000 in
theorem ql_w1368 : (Jvm.Cond.methodLink "FirstColourLaw" (126 : Nat) ({ cls := "FirstColourModel", name := "laws", desc := "(III)I" } : Jvm.MethodName)) ∈ qm_G := qm_inW (i := 1368) (by decide +kernel) rfl
set_option maxRecDepth 100000 in
theorem ql_w1369 : (Jvm.Cond.instanceMethod ({ cls := "FirstColourModel", name := "laws", desc := "(III)I" } : Jvm.MethodName)) ∈ qm_G := qm_inW (i := 1369) (by decide +kernel) rfl
set_option maxRecDepth 100000 in
theorem ql_w1370 : (Jvm.Cond.selects "FirstColourModel" ({ cls := "FirstColourModel", name := "laws", desc := "(III)I" } : Jvm.MethodName) ({ cls := "FirstColourModel", name := "laws", desc := "(III)I" } : Jvm.MethodName)) ∈ qm_G := qm_inW (i := 1370) (by decide +kernel) rfl
set_option maxRecDepth 100000 in
theorem ql_w1371 : (Jvm.Cond.code ({ cls := "FirstColourModel", name := "laws", desc := "(III)I" } : Jvm.MethodName) prog_11_method_84_code (7 : Nat) (Option.some Jvm.ClassFile.FieldType.int)) ∈ qm_G := qm_inW (i := 1371) (by decide +kernel) rfl
set_option maxRecDepth 100000 in
theorem ql_w1372 : (Jvm.Cond.methodLink "FirstColourLaw" (130 : Nat) ({ cls := "FirstColourModel", name := "drawn", desc := "(I)I" } : Jvm.MethodName)) ∈ qm_G := qm_inW (i := 1372) (by decide +kernel) rfl
set_option maxRecDepth 100000 in
theorem ql_w1373 : (Jvm.Cond.instanceMethod ({ cls := "FirstColourModel", name := "drawn", desc := "(I)I" } : Jvm.MethodName)) ∈ qm_G := qm_inW (i := 1373) (by decide +kernel) rfl
set_option maxRecDepth 100000 in
theorem ql_w1374 : (Jvm.Cond.selects "FirstColourModel" ({ cls := "FirstColourModel", name := "drawn", desc := "(I)I" } : Jvm.MethodName) ({ cls := "FirstColourModel", name := "drawn", desc := "(I)I" } : Jvm.MethodName)) ∈ qm_G := qm_inW (i := 1374) (by decide +kernel) rfl
set_option maxRecDepth 100000 in
theorem ql_w1375 : (Jvm.Cond.code ({ cls := "FirstColourModel", name := "drawn", desc := "(I)I" } : Jvm.MethodName) prog_11_method_86_code (2 : Nat) (Option.some Jvm.ClassFile.FieldType.int)) ∈ qm_G := qm_inW (i := 1375) (by decide +kernel) rfl
set_option maxRecDepth 100000 in
theorem ql_w1383 : (Jvm.Cond.methodLink "FirstColourLaw" (135 : Nat) ({ cls := "FirstColourModel", name := "odds", desc := "(IIII)J" } : Jvm.MethodName)) ∈ qm_G := qm_inW (i := 1383) (by decide +kernel) rfl
set_option maxRecDepth 100000 in
theorem ql_w1384 : (Jvm.Cond.instanceMethod ({ cls := "FirstColourModel", name := "odds", desc := "(IIII)J" } : Jvm.MethodName)) ∈ qm_G := qm_inW (i := 1384) (by decide +kernel) rfl
set_option maxRecDepth 100000 in
theorem ql_w1385 : (Jvm.Cond.selects "FirstColourModel" ({ cls := "FirstColourModel", name := "odds", desc := "(IIII)J" } : Jvm.MethodName) ({ cls := "FirstColourModel", name := "odds", desc := "(IIII)J" } : Jvm.MethodName)) ∈ qm_G := qm_inW (i := 1385) (by decide +kernel) rfl
set_option maxRecDepth 100000 in
theorem ql_w1386 : (Jvm.Cond.code ({ cls := "FirstColourModel", name := "odds", desc := "(IIII)J" } : Jvm.MethodName) prog_11_method_88_code (8 : Nat) (Option.some Jvm.ClassFile.FieldType.long)) ∈ qm_G := qm_inW (i := 1386) (by decide +kernel) rfl
set_option maxRecDepth 100000 in
theorem ql_w1391 : (Jvm.Cond.methodLink "FirstColourLaw" (139 : Nat) ({ cls := "FirstColourModel", name := "image", desc := "()I" } : Jvm.MethodName)) ∈ qm_G := qm_inW (i := 1391) (by decide +kernel) rfl
set_option maxRecDepth 100000 in
theorem ql_w1392 : (Jvm.Cond.instanceMethod ({ cls := "FirstColourModel", name := "image", desc := "()I" } : Jvm.MethodName)) ∈ qm_G := qm_inW (i := 1392) (by decide +kernel) rfl
set_option maxRecDepth 100000 in
theorem ql_w1393 : (Jvm.Cond.selects "FirstColourModel" ({ cls := "FirstColourModel", name := "image", desc := "()I" } : Jvm.MethodName) ({ cls := "FirstColourModel", name := "image", desc := "()I" } : Jvm.MethodName)) ∈ qm_G := qm_inW (i := 1393) (by decide +kernel) rfl
set_option maxRecDepth 100000 in
theorem ql_w1394 : (Jvm.Cond.code ({ cls := "FirstColourModel", name := "image", desc := "()I" } : Jvm.MethodName) prog_11_method_89_code (2 : Nat) (Option.some Jvm.ClassFile.FieldType.int)) ∈ qm_G := qm_inW (i := 1394) (by decide +kernel) rfl
set_option maxRecDepth 100000 in
theorem ql_w1395 : (Jvm.Cond.methodLink "FirstColourLaw" (143 : Nat) ({ cls := "FirstColourModel", name := "back", desc := "()I" } : Jvm.MethodName)) ∈ qm_G := qm_inW (i := 1395) (by decide +kernel) rfl
set_option maxRecDepth 100000 in
theorem ql_w1396 : (Jvm.Cond.instanceMethod ({ cls := "FirstColourModel", name := "back", desc := "()I" } : Jvm.MethodName)) ∈ qm_G := qm_inW (i := 1396) (by decide +kernel) rfl
set_option maxRecDepth 100000 in
theorem ql_w1397 : (Jvm.Cond.selects "FirstColourModel" ({ cls := "FirstColourModel", name := "back", desc := "()I" } : Jvm.MethodName) ({ cls := "FirstColourModel", name := "back", desc := "()I" } : Jvm.MethodName)) ∈ qm_G := qm_inW (i := 1397) (by decide +kernel) rfl
set_option maxRecDepth 100000 in
theorem ql_w1398 : (Jvm.Cond.code ({ cls := "FirstColourModel", name := "back", desc := "()I" } : Jvm.MethodName) prog_11_method_90_code (2 : Nat) (Option.some Jvm.ClassFile.FieldType.int)) ∈ qm_G := qm_inW (i := 1398) (by decide +kernel) rfl
set_option maxRecDepth 100000 in
theorem ql_w1399 : (Jvm.Cond.methodLink "FirstColourLaw" (147 : Nat) ({ cls := "FirstColourModel", name := "sheet", desc := "(III)I" } : Jvm.MethodName)) ∈ qm_G := qm_inW (i := 1399) (by decide +kernel) rfl
set_option maxRecDepth 100000 in
theorem ql_w1400 : (Jvm.Cond.instanceMethod ({ cls := "FirstColourModel", name := "sheet", desc := "(III)I" } : Jvm.MethodName)) ∈ qm_G := qm_inW (i := 1400) (by decide +kernel) rfl
set_option maxRecDepth 100000 in
theorem ql_w1401 : (Jvm.Cond.selects "FirstColourModel" ({ cls := "FirstColourModel", name := "sheet", desc := "(III)I" } : Jvm.MethodName) ({ cls := "FirstColourModel", name := "sheet", desc := "(III)I" } : Jvm.MethodName)) ∈ qm_G := qm_inW (i := 1401) (by decide +kernel) rfl
set_option maxRecDepth 100000 in
theorem ql_w1402 : (Jvm.Cond.code ({ cls := "FirstColourModel", name := "sheet", desc := "(III)I" } : Jvm.MethodName) prog_11_method_91_code (5 : Nat) (Option.some Jvm.ClassFile.FieldType.int)) ∈ qm_G := qm_inW (i := 1402) (by decide +kernel) rfl
set_option maxRecDepth 100000 in
theorem ql_w1403 : (Jvm.Cond.methodLink "FirstColourLaw" (151 : Nat) ({ cls := "FirstColourModel", name := "cell", desc := "(III)I" } : Jvm.MethodName)) ∈ qm_G := qm_inW (i := 1403) (by decide +kernel) rfl
set_option maxRecDepth 100000 in
theorem ql_w1404 : (Jvm.Cond.instanceMethod ({ cls := "FirstColourModel", name := "cell", desc := "(III)I" } : Jvm.MethodName)) ∈ qm_G := qm_inW (i := 1404) (by decide +kernel) rfl
set_option maxRecDepth 100000 in
theorem ql_w1405 : (Jvm.Cond.selects "FirstColourModel" ({ cls := "FirstColourModel", name := "cell", desc := "(III)I" } : Jvm.MethodName) ({ cls := "FirstColourModel", name := "cell", desc := "(III)I" } : Jvm.MethodName)) ∈ qm_G := qm_inW (i := 1405) (by decide +kernel) rfl
set_option maxRecDepth 100000 in
theorem ql_w1406 : (Jvm.Cond.code ({ cls := "FirstColourModel", name := "cell", desc := "(III)I" } : Jvm.MethodName) prog_11_method_92_code (4 : Nat) (Option.some Jvm.ClassFile.FieldType.int)) ∈ qm_G := qm_inW (i := 1406) (by decide +kernel) rfl
set_option maxRecDepth 100000 in
theorem ql_w1407 : (Jvm.Cond.methodLink "FirstColourLaw" (156 : Nat) ({ cls := "FirstColourModel", name := "copy", desc := "(IIIII)I" } : Jvm.MethodName)) ∈ qm_G := qm_inW (i := 1407) (by decide +kernel) rfl
set_option maxRecDepth 100000 in
theorem ql_w1408 : (Jvm.Cond.instanceMethod ({ cls := "FirstColourModel", name := "copy", desc := "(IIIII)I" } : Jvm.MethodName)) ∈ qm_G := qm_inW (i := 1408) (by decide +kernel) rfl
set_option maxRecDepth 100000 in
theorem ql_w1409 : (Jvm.Cond.selects "FirstColourModel" ({ cls := "FirstColourModel", name := "copy", desc := "(IIIII)I" } : Jvm.MethodName) ({ cls := "FirstColourModel", name := "copy", desc := "(IIIII)I" } : Jvm.MethodName)) ∈ qm_G := qm_inW (i := 1409) (by decide +kernel) rfl
set_option maxRecDepth 100000 in
theorem ql_w1410 : (Jvm.Cond.code ({ cls := "FirstColourModel", name := "copy", desc := "(IIIII)I" } : Jvm.MethodName) prog_11_method_93_code (10 : Nat) (Option.some Jvm.ClassFile.FieldType.int)) ∈ qm_G := qm_inW (i := 1410) (by decide +kernel) rfl
set_option maxRecDepth 100000 in
theorem ql_w1411 : (Jvm.Cond.methodLink "FirstColourLaw" (160 : Nat) ({ cls := "FirstColourModel", name := "lotsBy", desc := "(IIII)I" } : Jvm.MethodName)) ∈ qm_G := qm_inW (i := 1411) (by decide +kernel) rfl
set_option maxRecDepth 100000 in
theorem ql_w1412 : (Jvm.Cond.instanceMethod ({ cls := "FirstColourModel", name := "lotsBy", desc := "(IIII)I" } : Jvm.MethodName)) ∈ qm_G := qm_inW (i := 1412) (by decide +kernel) rfl
set_option maxRecDepth 100000 in
theorem ql_w1413 : (Jvm.Cond.selects "FirstColourModel" ({ cls := "FirstColourModel", name := "lotsBy", desc := "(IIII)I" } : Jvm.MethodName) ({ cls := "FirstColourModel", name := "lotsBy", desc := "(IIII)I" } : Jvm.MethodName)) ∈ qm_G := qm_inW (i := 1413) (by decide +kernel) rfl
set_option maxRecDepth 100000 in
theorem ql_w1414 : (Jvm.Cond.code ({ cls := "FirstColourModel", name := "lotsBy", desc := "(IIII)I" } : Jvm.MethodName) prog_11_method_94_code (9 : Nat) (Option.some Jvm.ClassFile.FieldType.int)) ∈ qm_G := qm_inW (i := 1414) (by decide +kernel) rfl
set_option maxRecDepth 100000 in
theorem ql_w1416 : (Jvm.Cond.methodLink "FirstColourLaw" (164 : Nat) ({ cls := "FirstColourModel", name := "taken", desc := "(II)I" } : Jvm.MethodName)) ∈ qm_G := qm_inW (i := 1416) (by decide +kernel) rfl
set_option maxRecDepth 100000 in
theorem ql_w1417 : (Jvm.Cond.instanceMethod ({ cls := "FirstColourModel", name := "taken", desc := "(II)I" } : Jvm.MethodName)) ∈ qm_G := qm_inW (i := 1417) (by decide +kernel) rfl
set_option maxRecDepth 100000 in
theorem ql_w1418 : (Jvm.Cond.selects "FirstColourModel" ({ cls := "FirstColourModel", name := "taken", desc := "(II)I" } : Jvm.MethodName) ({ cls := "FirstColourModel", name := "taken", desc := "(II)I" } : Jvm.MethodName)) ∈ qm_G := qm_inW (i := 1418) (by decide +kernel) rfl
set_option maxRecDepth 100000 in
theorem ql_w1419 : (Jvm.Cond.code ({ cls := "FirstColourModel", name := "taken", desc := "(II)I" } : Jvm.MethodName) prog_11_method_96_code (4 : Nat) (Option.some Jvm.ClassFile.FieldType.int)) ∈ qm_G := qm_inW (i := 1419) (by decide +kernel) rfl
theorem ql_X8_count : qm_peOK qm_G qm_cnm "FirstColourLaw" 13 (.inr (.inl (false, mX8_count))) := ⟨ql_w481, ql_w478, qw_73, by decide +kernel, ⟨by decide +kernel, by decide +kernel⟩, by decide +kernel, rfl, by decide, (fun h => by cases h), (fun _ => ⟨ql_w479, ql_w480, _, _, rfl⟩)⟩
theorem ql_X9_count : qm_peOK qm_G qm_cnm "FirstColourLaw" 17 (.inr (.inl (false, mX9_count))) := ⟨ql_w1099, ql_w1096, qw_87, by decide +kernel, ⟨by decide +kernel, by decide +kernel⟩, by decide +kernel, rfl, by decide, (fun h => by cases h), (fun _ => ⟨ql_w1097, ql_w1098, _, _, rfl⟩)⟩
theorem ql_X8_feed : qm_peOK qm_G qm_cnm "FirstColourLaw" 18 (.inr (.inl (false, mX8_feed))) := ⟨ql_w511, ql_w508, qw_73, by decide +kernel, ⟨by decide +kernel, by decide +kernel⟩, by decide +kernel, rfl, by decide, (fun h => by cases h), (fun _ => ⟨ql_w509, ql_w510, _, _, rfl⟩)⟩
theorem ql_X9_feed : qm_peOK qm_G qm_cnm "FirstColourLaw" 22 (.inr (.inl (false, mX9_feed))) := ⟨ql_w1122, ql_w1119, qw_87, by decide +kernel, ⟨by decide +kernel, by decide +kernel⟩, by decide +kernel, rfl, by decide, (fun h => by cases h), (fun _ => ⟨ql_w1120, ql_w1121, _, _, rfl⟩)⟩
theorem ql_X8_text : qm_peOK qm_G qm_cnm "FirstColourLaw" 23 (.inr (.inl (false, mX8_text))) := ⟨ql_w519, ql_w516, qw_73, by decide +kernel, ⟨by decide +kernel, by decide +kernel⟩, by decide +kernel, rfl, by decide, (fun h => by cases h), (fun _ => ⟨ql_w517, ql_w518, _, _, rfl⟩)⟩
theorem ql_X9_text : qm_peOK qm_G qm_cnm "FirstColourLaw" 27 (.inr (.inl (false, mX9_text))) := ⟨qw_934, ql_w1126, qw_87, by decide +kernel, ⟨by decide +kernel, by decide +kernel⟩, by decide +kernel, rfl, by decide, (fun h => by cases h), (fun _ => ⟨qw_932, qw_933, _, _, rfl⟩)⟩
theorem ql_X8_force : qm_peOK qm_G qm_cnm "FirstColourLaw" 28 (.inr (.inl (false, mX8_force))) := ⟨ql_w524, ql_w521, qw_73, by decide +kernel, ⟨by decide +kernel, by decide +kernel⟩, by decide +kernel, rfl, by decide, (fun h => by cases h), (fun _ => ⟨ql_w522, ql_w523, _, _, rfl⟩)⟩
theorem ql_X9_force : qm_peOK qm_G qm_cnm "FirstColourLaw" 31 (.inr (.inl (false, mX9_force))) := ⟨ql_w1130, ql_w1127, qw_87, by decide +kernel, ⟨by decide +kernel, by decide +kernel⟩, by decide +kernel, rfl, by decide, (fun h => by cases h), (fun _ => ⟨ql_w1128, ql_w1129, _, _, rfl⟩)⟩
theorem ql_X8_asks : qm_peOK qm_G qm_cnm "FirstColourLaw" 32 (.inr (.inl (false, mX8_asks))) := ⟨ql_w528, ql_w525, qw_73, by decide +kernel, ⟨by decide +kernel, by decide +kernel⟩, by decide +kernel, rfl, by decide, (fun h => by cases h), (fun _ => ⟨ql_w526, ql_w527, _, _, rfl⟩)⟩
theorem ql_X9_asks : qm_peOK qm_G qm_cnm "FirstColourLaw" 36 (.inr (.inl (false, mX9_asks))) := ⟨ql_w1134, ql_w1131, qw_87, by decide +kernel, ⟨by decide +kernel, by decide +kernel⟩, by decide +kernel, rfl, by decide, (fun h => by cases h), (fun _ => ⟨ql_w1132, ql_w1133, _, _, rfl⟩)⟩
theorem ql_X8_lot : qm_peOK qm_G qm_cnm "FirstColourLaw" 37 (.inr (.inl (false, mX8_lot))) := ⟨qw_561, ql_w558, qw_73, by decide +kernel, ⟨by decide +kernel, by decide +kernel⟩, by decide +kernel, rfl, by decide, (fun h => by cases h), (fun _ => ⟨qw_559, qw_560, _, _, rfl⟩)⟩
theorem ql_X9_lot : qm_peOK qm_G qm_cnm "FirstColourLaw" 41 (.inr (.inl (false, mX9_lot))) := ⟨qw_1156, ql_w1153, qw_87, by decide +kernel, ⟨by decide +kernel, by decide +kernel⟩, by decide +kernel, rfl, by decide, (fun h => by cases h), (fun _ => ⟨qw_1154, qw_1155, _, _, rfl⟩)⟩
theorem ql_X8_told : qm_peOK qm_G qm_cnm "FirstColourLaw" 42 (.inr (.inl (false, mX8_told))) := ⟨ql_w577, ql_w574, qw_73, by decide +kernel, ⟨by decide +kernel, by decide +kernel⟩, by decide +kernel, rfl, by decide, (fun h => by cases h), (fun _ => ⟨ql_w575, ql_w576, _, _, rfl⟩)⟩
theorem ql_X9_told : qm_peOK qm_G qm_cnm "FirstColourLaw" 46 (.inr (.inl (false, mX9_told))) := ⟨ql_w1164, ql_w1161, qw_87, by decide +kernel, ⟨by decide +kernel, by decide +kernel⟩, by decide +kernel, rfl, by decide, (fun h => by cases h), (fun _ => ⟨ql_w1162, ql_w1163, _, _, rfl⟩)⟩
theorem ql_X8_build : qm_peOK qm_G qm_cnm "FirstColourLaw" 47 (.inr (.inl (false, mX8_build))) := ⟨ql_w586, ql_w583, qw_73, by decide +kernel, ⟨by decide +kernel, by decide +kernel⟩, by decide +kernel, rfl, by decide, (fun h => by cases h), (fun _ => ⟨ql_w584, ql_w585, _, _, rfl⟩)⟩
theorem ql_X9_build : qm_peOK qm_G qm_cnm "FirstColourLaw" 50 (.inr (.inl (false, mX9_build))) := ⟨ql_w1168, ql_w1165, qw_87, by decide +kernel, ⟨by decide +kernel, by decide +kernel⟩, by decide +kernel, rfl, by decide, (fun h => by cases h), (fun _ => ⟨ql_w1166, ql_w1167, _, _, rfl⟩)⟩
theorem ql_X8_would : qm_peOK qm_G qm_cnm "FirstColourLaw" 51 (.inr (.inl (false, mX8_would))) := ⟨ql_w623, ql_w620, qw_73, by decide +kernel, ⟨by decide +kernel, by decide +kernel⟩, by decide +kernel, rfl, by decide, (fun h => by cases h), (fun _ => ⟨ql_w621, ql_w622, _, _, rfl⟩)⟩
theorem ql_X9_would : qm_peOK qm_G qm_cnm "FirstColourLaw" 54 (.inr (.inl (false, mX9_would))) := ⟨ql_w1194, ql_w1191, qw_87, by decide +kernel, ⟨by decide +kernel, by decide +kernel⟩, by decide +kernel, rfl, by decide, (fun h => by cases h), (fun _ => ⟨ql_w1192, ql_w1193, _, _, rfl⟩)⟩
theorem ql_X8_pull : qm_peOK qm_G qm_cnm "FirstColourLaw" 55 (.inr (.inl (false, mX8_pull))) := ⟨ql_w628, ql_w625, qw_73, by decide +kernel, ⟨by decide +kernel, by decide +kernel⟩, by decide +kernel, rfl, by decide, (fun h => by cases h), (fun _ => ⟨ql_w626, ql_w627, _, _, rfl⟩)⟩
theorem ql_X9_pull : qm_peOK qm_G qm_cnm "FirstColourLaw" 58 (.inr (.inl (false, mX9_pull))) := ⟨ql_w1198, ql_w1195, qw_87, by decide +kernel, ⟨by decide +kernel, by decide +kernel⟩, by decide +kernel, rfl, by decide, (fun h => by cases h), (fun _ => ⟨ql_w1196, ql_w1197, _, _, rfl⟩)⟩
theorem ql_X8_paint : qm_peOK qm_G qm_cnm "FirstColourLaw" 59 (.inr (.inl (false, mX8_paint))) := ⟨ql_w636, ql_w633, qw_73, by decide +kernel, ⟨by decide +kernel, by decide +kernel⟩, by decide +kernel, rfl, by decide, (fun h => by cases h), (fun _ => ⟨ql_w634, ql_w635, _, _, rfl⟩)⟩
theorem ql_X9_paint : qm_peOK qm_G qm_cnm "FirstColourLaw" 62 (.inr (.inl (false, mX9_paint))) := ⟨ql_w1202, ql_w1199, qw_87, by decide +kernel, ⟨by decide +kernel, by decide +kernel⟩, by decide +kernel, rfl, by decide, (fun h => by cases h), (fun _ => ⟨ql_w1200, ql_w1201, _, _, rfl⟩)⟩
theorem ql_X8_lane : qm_peOK qm_G qm_cnm "FirstColourLaw" 63 (.inr (.inl (false, mX8_lane))) := ⟨ql_w641, ql_w638, qw_73, by decide +kernel, ⟨by decide +kernel, by decide +kernel⟩, by decide +kernel, rfl, by decide, (fun h => by cases h), (fun _ => ⟨ql_w639, ql_w640, _, _, rfl⟩)⟩
theorem ql_X9_lane : qm_peOK qm_G qm_cnm "FirstColourLaw" 66 (.inr (.inl (false, mX9_lane))) := ⟨ql_w1206, ql_w1203, qw_87, by decide +kernel, ⟨by decide +kernel, by decide +kernel⟩, by decide +kernel, rfl, by decide, (fun h => by cases h), (fun _ => ⟨ql_w1204, ql_w1205, _, _, rfl⟩)⟩
theorem ql_X8_close : qm_peOK qm_G qm_cnm "FirstColourLaw" 67 (.inr (.inl (false, mX8_close))) := ⟨ql_w671, ql_w668, qw_73, by decide +kernel, ⟨by decide +kernel, by decide +kernel⟩, by decide +kernel, rfl, by decide, (fun h => by cases h), (fun _ => ⟨ql_w669, ql_w670, _, _, rfl⟩)⟩
theorem ql_X9_close : qm_peOK qm_G qm_cnm "FirstColourLaw" 70 (.inr (.inl (false, mX9_close))) := ⟨ql_w1230, ql_w1227, qw_87, by decide +kernel, ⟨by decide +kernel, by decide +kernel⟩, by decide +kernel, rfl, by decide, (fun h => by cases h), (fun _ => ⟨ql_w1228, ql_w1229, _, _, rfl⟩)⟩
theorem ql_X8_idle : qm_peOK qm_G qm_cnm "FirstColourLaw" 71 (.inr (.inl (false, mX8_idle))) := ⟨ql_w679, ql_w676, qw_73, by decide +kernel, ⟨by decide +kernel, by decide +kernel⟩, by decide +kernel, rfl, by decide, (fun h => by cases h), (fun _ => ⟨ql_w677, ql_w678, _, _, rfl⟩)⟩
theorem ql_X9_idle : qm_peOK qm_G qm_cnm "FirstColourLaw" 74 (.inr (.inl (false, mX9_idle))) := ⟨ql_w1234, ql_w1231, qw_87, by decide +kernel, ⟨by decide +kernel, by decide +kernel⟩, by decide +kernel, rfl, by decide, (fun h => by cases h), (fun _ => ⟨ql_w1232, ql_w1233, _, _, rfl⟩)⟩
theorem ql_X8_order : qm_peOK qm_G qm_cnm "FirstColourLaw" 75 (.inr (.inl (false, mX8_order))) := ⟨ql_w692, ql_w689, qw_73, by decide +kernel, ⟨by decide +kernel, by decide +kernel⟩, by decide +kernel, rfl, by decide, (fun h => by cases h), (fun _ => ⟨ql_w690, ql_w691, _, _, rfl⟩)⟩
theorem ql_X9_order : qm_peOK qm_G qm_cnm "FirstColourLaw" 78 (.inr (.inl (false, mX9_order))) := ⟨ql_w1250, ql_w1247, qw_87, by decide +kernel, ⟨by decide +kernel, by decide +kernel⟩, by decide +kernel, rfl, by decide, (fun h => by cases h), (fun _ => ⟨ql_w1248, ql_w1249, _, _, rfl⟩)⟩
theorem ql_X8_fewest : qm_peOK qm_G qm_cnm "FirstColourLaw" 79 (.inr (.inl (false, mX8_fewest))) := ⟨ql_w716, ql_w713, qw_73, by decide +kernel, ⟨by decide +kernel, by decide +kernel⟩, by decide +kernel, rfl, by decide, (fun h => by cases h), (fun _ => ⟨ql_w714, ql_w715, _, _, rfl⟩)⟩
theorem ql_X9_fewest : qm_peOK qm_G qm_cnm "FirstColourLaw" 82 (.inr (.inl (false, mX9_fewest))) := ⟨ql_w1282, ql_w1279, qw_87, by decide +kernel, ⟨by decide +kernel, by decide +kernel⟩, by decide +kernel, rfl, by decide, (fun h => by cases h), (fun _ => ⟨ql_w1280, ql_w1281, _, _, rfl⟩)⟩
theorem ql_X8_paints : qm_peOK qm_G qm_cnm "FirstColourLaw" 83 (.inr (.inl (false, mX8_paints))) := ⟨ql_w729, ql_w726, qw_73, by decide +kernel, ⟨by decide +kernel, by decide +kernel⟩, by decide +kernel, rfl, by decide, (fun h => by cases h), (fun _ => ⟨ql_w727, ql_w728, _, _, rfl⟩)⟩
theorem ql_X9_paints : qm_peOK qm_G qm_cnm "FirstColourLaw" 86 (.inr (.inl (false, mX9_paints))) := ⟨ql_w1290, ql_w1287, qw_87, by decide +kernel, ⟨by decide +kernel, by decide +kernel⟩, by decide +kernel, rfl, by decide, (fun h => by cases h), (fun _ => ⟨ql_w1288, ql_w1289, _, _, rfl⟩)⟩
theorem ql_X8_raise : qm_peOK qm_G qm_cnm "FirstColourLaw" 87 (.inr (.inl (false, mX8_raise))) := ⟨ql_w767, ql_w764, qw_73, by decide +kernel, ⟨by decide +kernel, by decide +kernel⟩, by decide +kernel, rfl, by decide, (fun h => by cases h), (fun _ => ⟨ql_w765, ql_w766, _, _, rfl⟩)⟩
theorem ql_X9_raise : qm_peOK qm_G qm_cnm "FirstColourLaw" 90 (.inr (.inl (false, mX9_raise))) := ⟨ql_w1298, ql_w1295, qw_87, by decide +kernel, ⟨by decide +kernel, by decide +kernel⟩, by decide +kernel, rfl, by decide, (fun h => by cases h), (fun _ => ⟨ql_w1296, ql_w1297, _, _, rfl⟩)⟩
theorem ql_X8_when : qm_peOK qm_G qm_cnm "FirstColourLaw" 91 (.inr (.inl (false, mX8_when))) := ⟨ql_w771, ql_w768, qw_73, by decide +kernel, ⟨by decide +kernel, by decide +kernel⟩, by decide +kernel, rfl, by decide, (fun h => by cases h), (fun _ => ⟨ql_w769, ql_w770, _, _, rfl⟩)⟩
theorem ql_X9_when : qm_peOK qm_G qm_cnm "FirstColourLaw" 94 (.inr (.inl (false, mX9_when))) := ⟨ql_w1302, ql_w1299, qw_87, by decide +kernel, ⟨by decide +kernel, by decide +kernel⟩, by decide +kernel, rfl, by decide, (fun h => by cases h), (fun _ => ⟨ql_w1300, ql_w1301, _, _, rfl⟩)⟩
theorem ql_X8_rule : qm_peOK qm_G qm_cnm "FirstColourLaw" 95 (.inr (.inl (false, mX8_rule))) := ⟨ql_w776, ql_w773, qw_73, by decide +kernel, ⟨by decide +kernel, by decide +kernel⟩, by decide +kernel, rfl, by decide, (fun h => by cases h), (fun _ => ⟨ql_w774, ql_w775, _, _, rfl⟩)⟩
theorem ql_X9_rule : qm_peOK qm_G qm_cnm "FirstColourLaw" 98 (.inr (.inl (false, mX9_rule))) := ⟨ql_w1310, ql_w1307, qw_87, by decide +kernel, ⟨by decide +kernel, by decide +kernel⟩, by decide +kernel, rfl, by decide, (fun h => by cases h), (fun _ => ⟨ql_w1308, ql_w1309, _, _, rfl⟩)⟩
theorem ql_X8_ahead : qm_peOK qm_G qm_cnm "FirstColourLaw" 99 (.inr (.inl (false, mX8_ahead))) := ⟨ql_w794, ql_w791, qw_73, by decide +kernel, ⟨by decide +kernel, by decide +kernel⟩, by decide +kernel, rfl, by decide, (fun h => by cases h), (fun _ => ⟨ql_w792, ql_w793, _, _, rfl⟩)⟩
theorem ql_X9_ahead : qm_peOK qm_G qm_cnm "FirstColourLaw" 102 (.inr (.inl (false, mX9_ahead))) := ⟨ql_w1318, ql_w1315, qw_87, by decide +kernel, ⟨by decide +kernel, by decide +kernel⟩, by decide +kernel, rfl, by decide, (fun h => by cases h), (fun _ => ⟨ql_w1316, ql_w1317, _, _, rfl⟩)⟩
theorem ql_X8_built : qm_peOK qm_G qm_cnm "FirstColourLaw" 103 (.inr (.inl (false, mX8_built))) := ⟨ql_w812, ql_w809, qw_73, by decide +kernel, ⟨by decide +kernel, by decide +kernel⟩, by decide +kernel, rfl, by decide, (fun h => by cases h), (fun _ => ⟨ql_w810, ql_w811, _, _, rfl⟩)⟩
theorem ql_X9_built : qm_peOK qm_G qm_cnm "FirstColourLaw" 106 (.inr (.inl (false, mX9_built))) := ⟨ql_w1331, ql_w1328, qw_87, by decide +kernel, ⟨by decide +kernel, by decide +kernel⟩, by decide +kernel, rfl, by decide, (fun h => by cases h), (fun _ => ⟨ql_w1329, ql_w1330, _, _, rfl⟩)⟩
theorem ql_X8_blame : qm_peOK qm_G qm_cnm "FirstColourLaw" 107 (.inr (.inl (false, mX8_blame))) := ⟨ql_w826, ql_w823, qw_73, by decide +kernel, ⟨by decide +kernel, by decide +kernel⟩, by decide +kernel, rfl, by decide, (fun h => by cases h), (fun _ => ⟨ql_w824, ql_w825, _, _, rfl⟩)⟩
theorem ql_X9_blame : qm_peOK qm_G qm_cnm "FirstColourLaw" 110 (.inr (.inl (false, mX9_blame))) := ⟨ql_w1343, ql_w1340, qw_87, by decide +kernel, ⟨by decide +kernel, by decide +kernel⟩, by decide +kernel, rfl, by decide, (fun h => by cases h), (fun _ => ⟨ql_w1341, ql_w1342, _, _, rfl⟩)⟩
theorem ql_X8_judge : qm_peOK qm_G qm_cnm "FirstColourLaw" 111 (.inr (.inl (false, mX8_judge))) := ⟨ql_w830, ql_w827, qw_73, by decide +kernel, ⟨by decide +kernel, by decide +kernel⟩, by decide +kernel, rfl, by decide, (fun h => by cases h), (fun _ => ⟨ql_w828, ql_w829, _, _, rfl⟩)⟩
theorem ql_X9_judge : qm_peOK qm_G qm_cnm "FirstColourLaw" 114 (.inr (.inl (false, mX9_judge))) := ⟨ql_w1347, ql_w1344, qw_87, by decide +kernel, ⟨by decide +kernel, by decide +kernel⟩, by decide +kernel, rfl, by decide, (fun h => by cases h), (fun _ => ⟨ql_w1345, ql_w1346, _, _, rfl⟩)⟩
theorem ql_X8_plans : qm_peOK qm_G qm_cnm "FirstColourLaw" 115 (.inr (.inl (false, mX8_plans))) := ⟨ql_w843, ql_w840, qw_73, by decide +kernel, ⟨by decide +kernel, by decide +kernel⟩, by decide +kernel, rfl, by decide, (fun h => by cases h), (fun _ => ⟨ql_w841, ql_w842, _, _, rfl⟩)⟩
theorem ql_X9_plans : qm_peOK qm_G qm_cnm "FirstColourLaw" 118 (.inr (.inl (false, mX9_plans))) := ⟨ql_w1359, ql_w1356, qw_87, by decide +kernel, ⟨by decide +kernel, by decide +kernel⟩, by decide +kernel, rfl, by decide, (fun h => by cases h), (fun _ => ⟨ql_w1357, ql_w1358, _, _, rfl⟩)⟩
theorem ql_X8_film : qm_peOK qm_G qm_cnm "FirstColourLaw" 119 (.inr (.inl (false, mX8_film))) := ⟨ql_w847, ql_w844, qw_73, by decide +kernel, ⟨by decide +kernel, by decide +kernel⟩, by decide +kernel, rfl, by decide, (fun h => by cases h), (fun _ => ⟨ql_w845, ql_w846, _, _, rfl⟩)⟩
theorem ql_X9_film : qm_peOK qm_G qm_cnm "FirstColourLaw" 122 (.inr (.inl (false, mX9_film))) := ⟨ql_w1367, ql_w1364, qw_87, by decide +kernel, ⟨by decide +kernel, by decide +kernel⟩, by decide +kernel, rfl, by decide, (fun h => by cases h), (fun _ => ⟨ql_w1365, ql_w1366, _, _, rfl⟩)⟩
theorem ql_X8_laws : qm_peOK qm_G qm_cnm "FirstColourLaw" 123 (.inr (.inl (false, mX8_laws))) := ⟨ql_w859, ql_w856, qw_73, by decide +kernel, ⟨by decide +kernel, by decide +kernel⟩, by decide +kernel, rfl, by decide, (fun h => by cases h), (fun _ => ⟨ql_w857, ql_w858, _, _, rfl⟩)⟩
theorem ql_X9_laws : qm_peOK qm_G qm_cnm "FirstColourLaw" 126 (.inr (.inl (false, mX9_laws))) := ⟨ql_w1371, ql_w1368, qw_87, by decide +kernel, ⟨by decide +kernel, by decide +kernel⟩, by decide +kernel, rfl, by decide, (fun h => by cases h), (fun _ => ⟨ql_w1369, ql_w1370, _, _, rfl⟩)⟩
theorem ql_X8_drawn : qm_peOK qm_G qm_cnm "FirstColourLaw" 127 (.inr (.inl (false, mX8_drawn))) := ⟨ql_w863, ql_w860, qw_73, by decide +kernel, ⟨by decide +kernel, by decide +kernel⟩, by decide +kernel, rfl, by decide, (fun h => by cases h), (fun _ => ⟨ql_w861, ql_w862, _, _, rfl⟩)⟩
theorem ql_X9_drawn : qm_peOK qm_G qm_cnm "FirstColourLaw" 130 (.inr (.inl (false, mX9_drawn))) := ⟨ql_w1375, ql_w1372, qw_87, by decide +kernel, ⟨by decide +kernel, by decide +kernel⟩, by decide +kernel, rfl, by decide, (fun h => by cases h), (fun _ => ⟨ql_w1373, ql_w1374, _, _, rfl⟩)⟩
theorem ql_X8_odds : qm_peOK qm_G qm_cnm "FirstColourLaw" 131 (.inr (.inl (false, mX8_odds))) := ⟨ql_w882, ql_w879, qw_73, by decide +kernel, ⟨by decide +kernel, by decide +kernel⟩, by decide +kernel, rfl, by decide, (fun h => by cases h), (fun _ => ⟨ql_w880, ql_w881, _, _, rfl⟩)⟩
theorem ql_X9_odds : qm_peOK qm_G qm_cnm "FirstColourLaw" 135 (.inr (.inl (false, mX9_odds))) := ⟨ql_w1386, ql_w1383, qw_87, by decide +kernel, ⟨by decide +kernel, by decide +kernel⟩, by decide +kernel, rfl, by decide, (fun h => by cases h), (fun _ => ⟨ql_w1384, ql_w1385, _, _, rfl⟩)⟩
theorem ql_X8_image : qm_peOK qm_G qm_cnm "FirstColourLaw" 136 (.inr (.inl (false, mX8_image))) := ⟨ql_w890, ql_w887, qw_73, by decide +kernel, ⟨by decide +kernel, by decide +kernel⟩, by decide +kernel, rfl, by decide, (fun h => by cases h), (fun _ => ⟨ql_w888, ql_w889, _, _, rfl⟩)⟩
theorem ql_X9_image : qm_peOK qm_G qm_cnm "FirstColourLaw" 139 (.inr (.inl (false, mX9_image))) := ⟨ql_w1394, ql_w1391, qw_87, by decide +kernel, ⟨by decide +kernel, by decide +kernel⟩, by decide +kernel, rfl, by decide, (fun h => by cases h), (fun _ => ⟨ql_w1392, ql_w1393, _, _, rfl⟩)⟩
theorem ql_X8_back : qm_peOK qm_G qm_cnm "FirstColourLaw" 140 (.inr (.inl (false, mX8_back))) := ⟨ql_w894, ql_w891, qw_73, by decide +kernel, ⟨by decide +kernel, by decide +kernel⟩, by decide +kernel, rfl, by decide, (fun h => by cases h), (fun _ => ⟨ql_w892, ql_w893, _, _, rfl⟩)⟩
theorem ql_X9_back : qm_peOK qm_G qm_cnm "FirstColourLaw" 143 (.inr (.inl (false, mX9_back))) := ⟨ql_w1398, ql_w1395, qw_87, by decide +kernel, ⟨by decide +kernel, by decide +kernel⟩, by decide +kernel, rfl, by decide, (fun h => by cases h), (fun _ => ⟨ql_w1396, ql_w1397, _, _, rfl⟩)⟩
theorem ql_X8_sheet : qm_peOK qm_G qm_cnm "FirstColourLaw" 144 (.inr (.inl (false, mX8_sheet))) := ⟨ql_w898, ql_w895, qw_73, by decide +kernel, ⟨by decide +kernel, by decide +kernel⟩, by decide +kernel, rfl, by decide, (fun h => by cases h), (fun _ => ⟨ql_w896, ql_w897, _, _, rfl⟩)⟩
theorem ql_X9_sheet : qm_peOK qm_G qm_cnm "FirstColourLaw" 147 (.inr (.inl (false, mX9_sheet))) := ⟨ql_w1402, ql_w1399, qw_87, by decide +kernel, ⟨by decide +kernel, by decide +kernel⟩, by decide +kernel, rfl, by decide, (fun h => by cases h), (fun _ => ⟨ql_w1400, ql_w1401, _, _, rfl⟩)⟩
theorem ql_X8_cell : qm_peOK qm_G qm_cnm "FirstColourLaw" 148 (.inr (.inl (false, mX8_cell))) := ⟨ql_w902, ql_w899, qw_73, by decide +kernel, ⟨by decide +kernel, by decide +kernel⟩, by decide +kernel, rfl, by decide, (fun h => by cases h), (fun _ => ⟨ql_w900, ql_w901, _, _, rfl⟩)⟩
theorem ql_X9_cell : qm_peOK qm_G qm_cnm "FirstColourLaw" 151 (.inr (.inl (false, mX9_cell))) := ⟨ql_w1406, ql_w1403, qw_87, by decide +kernel, ⟨by decide +kernel, by decide +kernel⟩, by decide +kernel, rfl, by decide, (fun h => by cases h), (fun _ => ⟨ql_w1404, ql_w1405, _, _, rfl⟩)⟩
theorem ql_X8_copy : qm_peOK qm_G qm_cnm "FirstColourLaw" 152 (.inr (.inl (false, mX8_copy))) := ⟨ql_w907, ql_w904, qw_73, by decide +kernel, ⟨by decide +kernel, by decide +kernel⟩, by decide +kernel, rfl, by decide, (fun h => by cases h), (fun _ => ⟨ql_w905, ql_w906, _, _, rfl⟩)⟩
theorem ql_X9_copy : qm_peOK qm_G qm_cnm "FirstColourLaw" 156 (.inr (.inl (false, mX9_copy))) := ⟨ql_w1410, ql_w1407, qw_87, by decide +kernel, ⟨by decide +kernel, by decide +kernel⟩, by decide +kernel, rfl, by decide, (fun h => by cases h), (fun _ => ⟨ql_w1408, ql_w1409, _, _, rfl⟩)⟩
theorem ql_X8_lotsBy : qm_peOK qm_G qm_cnm "FirstColourLaw" 157 (.inr (.inl (false, mX8_lotsBy))) := ⟨ql_w916, ql_w913, qw_73, by decide +kernel, ⟨by decide +kernel, by decide +kernel⟩, by decide +kernel, rfl, by decide, (fun h => by cases h), (fun _ => ⟨ql_w914, ql_w915, _, _, rfl⟩)⟩
theorem ql_X9_lotsBy : qm_peOK qm_G qm_cnm "FirstColourLaw" 160 (.inr (.inl (false, mX9_lotsBy))) := ⟨ql_w1414, ql_w1411, qw_87, by decide +kernel, ⟨by decide +kernel, by decide +kernel⟩, by decide +kernel, rfl, by decide, (fun h => by cases h), (fun _ => ⟨ql_w1412, ql_w1413, _, _, rfl⟩)⟩
theorem ql_X8_taken : qm_peOK qm_G qm_cnm "FirstColourLaw" 161 (.inr (.inl (false, mX8_taken))) := ⟨ql_w921, ql_w918, qw_73, by decide +kernel, ⟨by decide +kernel, by decide +kernel⟩, by decide +kernel, rfl, by decide, (fun h => by cases h), (fun _ => ⟨ql_w919, ql_w920, _, _, rfl⟩)⟩
theorem ql_X9_taken : qm_peOK qm_G qm_cnm "FirstColourLaw" 164 (.inr (.inl (false, mX9_taken))) := ⟨ql_w1419, ql_w1416, qw_87, by decide +kernel, ⟨by decide +kernel, by decide +kernel⟩, by decide +kernel, rfl, by decide, (fun h => by cases h), (fun _ => ⟨ql_w1417, ql_w1418, _, _, rfl⟩)⟩
