def qm_rm (d : Nat) : Room := { frames := d + 1, cells := 0, slots := 0, locals := 64 * (d + 1) }
/-! ===== the texts that stand in the pools ===== -/
def qm_so (i : Nat) : String := if i = 0 then "FirstColour$Texts" else "FirstColour$Reader"
def qm_si (i : Nat) : Nat := if i = 0 then 36 else 115 + 2 * i
def qm_st (i : Nat) : String := ["worth 20 - colour * 4 ; waits order ; moves 1 ;", "colour", "lot", "beside", "order", "more", "lots", "worth", "waits", "moves", "or", "and", "not"].getD i ""
def qm_sl : List Nat := qm_str.map List.length
def qm_E (α : Nat → Nat) (A : Nat → Prop) (U : State) (H : Heap) : Prop :=
  (∃ adV, vk_S 13 qm_sl qm_str (fun i => α (1000 + i)) adV A U H) ∧ va_Z "java/lang/String" "COMPACT_STRINGS" "Z" (.int 1) A U H ∧ va_Zq "jdk/internal/util/Preconditions" "SIOOBE_FORMATTER" "Ljava/util/function/BiFunction;" A U H ∧ ∀ i, i < 13 → vk_R (qm_so i) (qm_si i) (qm_st i) (α (1000 + i)) U
theorem qm_E.to {α : Nat → Nat} {A B : Nat → Prop} {s U : State} {H : Heap} {locs : List Loc} (h : qm_E α A s s.heap) (hS : va_S A s.heap H locs) (hW : s.WarmedH U.vm) (hU : U.heap = H) (hB : ∀ q, B q → A q) : qm_E α B U U.heap := by
  obtain ⟨⟨adV, h1⟩, h2, h3, h4⟩ := h
  rw [hU]
  exact ⟨⟨adV, ((h1.kept hS.2.1).narrow hB).moved hW.alike⟩, ((h2.kept hS.2.1).narrow hB).moved hW.alike, ((h3.kept hS.2.1).narrow hB).moved hW.alike, fun i hi => (h4 i hi).warm hW⟩
theorem qm_E.calling {α : Nat → Nat} {A : Nat → Prop} {U : State} {g : JFrame} {mk : MethodId} {a : Array Value} (h : qm_E α A U U.heap) : qm_E α A (U.calling g mk a) (U.calling g mk a).heap := by
  obtain ⟨⟨adV, h1⟩, h2, h3, h4⟩ := h
  exact ⟨⟨adV, h1.moved (U := U.calling g mk a) (Vm.Alike.refl U.vm)⟩, h2.moved (U := U.calling g mk a) (Vm.Alike.refl U.vm), h3.moved (U := U.calling g mk a) (Vm.Alike.refl U.vm), fun i hi => (h4 i hi).same (U := U.calling g mk a) rfl⟩
/-- the words that the library's own methods of texts need -/
def qm_jw : List Cond := [
  .fieldLink RJ0 9 RJ0 "value" "[B", .fieldLink RJ0 15 RJ0 "coder" "B", .fieldLink RJ0 38 RJ0 "COMPACT_STRINGS" "Z", .fieldLink RJ0 1053 RJ3 "SIOOBE_FORMATTER" "Ljava/util/function/BiFunction;",
  .initialized RJ0, .initialized RJ1, .initialized RJ3,
  .methodLink RJ0 335 yJ0_coder_7d493, .instanceMethod yJ0_coder_7d493, .selects RJ0 yJ0_coder_7d493 yJ0_coder_7d493, .code yJ0_coder_7d493 cJ0_coder_7d493 1 (some .byte),
  .methodLink RJ0 492 yJ0_isLatin1_aae02, .instanceMethod yJ0_isLatin1_aae02, .selects RJ0 yJ0_isLatin1_aae02 yJ0_isLatin1_aae02, .code yJ0_isLatin1_aae02 cJ0_isLatin1_aae02 1 (some .boolean),
  .methodLink RJ0 495 yJ1_charAt_3b067, .static yJ1_charAt_3b067, .code yJ1_charAt_3b067 cJ1_charAt_3b067 2 (some .char),
  .methodLink RJ1 9 yJ0_checkIndex_df160, .static yJ0_checkIndex_df160, .code yJ0_checkIndex_df160 cJ0_checkIndex_df160 2 none,
  .methodLink RJ0 1059 yJ3_checkIndex_8e157, .static yJ3_checkIndex_8e157, .code yJ3_checkIndex_8e157 cJ3_checkIndex_8e157 3 (some .int)]
abbrev qj_Q (w : Option Value) : Array Value → State → Outcome → State → Prop := fun _ st o t => o = .returned w ∧ t.heap = st.heap
abbrev qj_N : Nat → Prop := fun _ => False
theorem qj_call {p : Program} {l : Launch} {e : Env} {R : Room} {s : State} {m : MethodId} {args : Array Value} {below : List Frame} {meth : Method} {c : Code} {H : Heap} {locs : List Loc} {cells slots : Nat} {Q : State → Prop} {pc : Nat} {LS : Array Slot} {st0 rest : List Value} {w : Option Value} {b : Array Value}
    (hr : CallRun p l e R s m args below meth c H locs cells slots 0 0 (F0 m pc LS st0) rest (qj_Q w b) qj_N)
    (k : W p l e R s m args below meth c H locs cells slots Q (F0 m (pc + 3) LS (w.toList ++ rest))) : W p l e R s m args below meth c H locs cells slots Q (F0 m pc LS st0) := by
  intro T hT X
  obtain ⟨v, st₀, t, T', L, h0, X', hL, e1, ⟨hv, hq⟩, st⟩ := hr T hT X
  cases hv
  have hL0 : L = [] := List.eq_nil_iff_forall_not_mem.mpr fun q hq' => hL q hq'
  subst hL0
  rw [List.append_nil] at X'
  obtain ⟨t2, a1, b1⟩ := k T' (by rw [e1, hq, h0]) X'
  exact ⟨t2, st t2 a1, b1⟩
theorem qj_callR {p : Program} {l : Launch} {e : Env} {R : Room} {s : State} {m : MethodId} {args : Array Value} {below : List Frame} {meth : Method} {c : Code} {H : Heap} {locs : List Loc} {cells slots : Nat} {pc : Nat} {LS : Array Slot} {st0 rest : List Value} {Qa : State → Outcome → State → Prop}
    (hr : va_Run p l e R s m args below meth c H locs cells slots 0 0 (F0 m pc LS st0) rest Qa qj_N) : CallRun p l e R s m args below meth c H locs cells slots 0 0 (F0 m pc LS st0) rest Qa qj_N := by
  intro T hT X
  obtain ⟨v, st₀, t, T', L, h0, X', hL, e1, -, hq, st⟩ := hr T hT X
  exact ⟨v, st₀, t, T', L, h0, X', hL, e1, hq, st⟩
section QJ
variable {G : List Cond} {α : Nat → Nat}
/-- what a method of texts is given: the i-th -/
abbrev qj_P (α : Nat → Nat) (av : List Value) : Array Value → State → Prop := va_Pc av (fun U => qm_E α qj_N U U.heap)
theorem qj_blind {av : List Value} : FrameBlind (qj_P α av) := fun _ _ _ _ q => ⟨q.1, q.2.calling⟩
theorem qj_jw (k : Nat) {w : Cond} (hJ : ∀ w ∈ qm_jw, w ∈ G) (h : qm_jw[k]? = some w) : w ∈ G := hJ w (List.mem_of_getElem? h)
theorem qj_callB {s : State} {args : Array Value} (hts : ∀ w ∈ G, w.before args s = true) (hG : ∀ w ∈ G, (w.onTables && w.keeps) = true ∨ ∃ ty, w = Cond.arrayClass ty) {own : String} {i : Nat} {y : MethodName} {cb : ByteArray} {mx n d : Nat} {ret : Option FieldType} {R : Room}
    (h1 : Cond.methodLink own i y ∈ G) (h2 : Cond.initialized y.cls ∈ G) (h3 : Cond.code y cb mx ret ∈ G) (h4 : y.cls ≠ "java/lang/invoke/MethodHandle" ∧ y.cls ≠ "java/lang/invoke/VarHandle") (h5 : (parseMethodDescriptor y.desc).map (fun d => d.parameters.length) = some n) (h6 : d + 2 ≤ R.frames) (h7 : 8 + (mx + 11) + 64 * (d + 1) ≤ R.locals) :
    CallB R s args own i y cb mx ret (Cond.code y cb mx ret :: G) (qm_rm d) 0 0 n :=
  ⟨rfl, rfl, h6, h7, pay_in hts (fun w hw' => by
      rcases List.mem_cons.mp hw' with q | q
      · subst q; exact ⟨h3, hG _ h3⟩
      · exact ⟨q, hG _ q⟩), List.mem_cons_self, hts _ h3, hts _ h2, h4, fun sig hs => by
      rw [hs] at h5
      exact (Option.some.inj h5).symm, hts _ h1⟩
/-- a method of the library's begins -/
theorem qj_ofW {l : Launch} {y : MethodName} {cb : ByteArray} {mx d : Nat} {ret : Option FieldType} {av : List Value} {v : Option Value} (hy : plainName y.cls = true) (hav : (lg_sl av).length ≤ mx)
    (body : ∀ (p : Program) (e : Env) (s : State) (m : MethodId) (args : Array Value) (below : List Frame) (meth : Method) (c : Code) (LS : Array Slot), p.tables.exec = Jvm.exec → c.code = cb → c.maxLocals = mx → meth.sig.returnType = ret → meth.locks = false → s.vm.findClass y.cls = some m.cls → (∀ w ∈ G, w.before args s = true) → qm_E α qj_N s s.heap → lv_has LS mx (lv_args 0 av) →
      W p l e (qm_rm d) s m args below meth c s.heap [] 0 0 (MQ below (qj_Q v) args s 0 0 qj_N) (F0 m 0 LS [])) : Met l y (Cond.code y cb mx ret :: G) (qm_rm d) (qj_P α av) (qj_Q v) 0 0 qj_N := by
  refine Met.ofW (cc := cb) (maxL := mx) (ret := ret) hy rfl ?_
  intro p e s m args below meth c s₁ B hml hv
  obtain ⟨rfl, hE⟩ := hv
  have hts := atoms_spec (ws := Cond.code y cb mx ret :: G) B.pre
  rw [lg_entry_eq]
  exact body p e s m _ below meth c _ B.exec B.bytes hml B.returns B.notSynchronized (findClass_of_methodNamed B.named) (fun w hw => hts w (List.mem_cons_of_mem _ hw)) hE (lv_entry av hav)
theorem qj_coder (hJ : ∀ w ∈ qm_jw, w ∈ G) (l : Launch) {i : Nat} (hi : i < 13) : Met l yJ0_coder_7d493 (Cond.code yJ0_coder_7d493 cJ0_coder_7d493 1 (some .byte) :: G) (qm_rm 0) (qj_P α [.ref (α (1000 + i))]) (qj_Q (some (.int 0))) 0 0 qj_N := by
  refine qj_ofW (by decide +kernel) (Nat.le_of_ble_eq_true rfl) ?_
  intro p e s m args below meth c LS hx hb hml hr hlk hown hts hE hl
  obtain ⟨⟨adV, hV⟩, hZ, hZq, hR⟩ := hE
  have hS : va_S qj_N s.heap s.heap [] := va_S.rf
  refine va_gets hx hb hZ hS hown (hts _ (qj_jw 2 hJ rfl)) (fun _ q => q) dJ0_coder_7d493_0 ?_
  refine lv_if_eq (tgt := 13) hx hb dJ0_coder_7d493_3 (by decide) (fun q => absurd q (by decide)) (fun _ => ?_)
  refine lv_aload_n hx hb dJ0_coder_7d493_6 rfl (lv_at hl 0 rfl) ?_
  refine vk_getf hx hb (hV.1 i hi).2.1 hS hown (hts _ (qj_jw 1 hJ rfl)) (fun _ q => q) dJ0_coder_7d493_7 ?_
  refine lv_goto (tgt := 14) hx hb dJ0_coder_7d493_10 (by decide) ?_
  exact W.zret hx hb hr rfl (fun t ht _ => ⟨rfl, ht⟩) (fun q hq => by cases hq) dJ0_coder_7d493_14 hlk
theorem qj_isLatin1 (hJ : ∀ w ∈ qm_jw, w ∈ G) (l : Launch) {i : Nat} (hi : i < 13) : Met l yJ0_isLatin1_aae02 (Cond.code yJ0_isLatin1_aae02 cJ0_isLatin1_aae02 1 (some .boolean) :: G) (qm_rm 0) (qj_P α [.ref (α (1000 + i))]) (qj_Q (some (.int 1))) 0 0 qj_N := by
  refine qj_ofW (by decide +kernel) (Nat.le_of_ble_eq_true rfl) ?_
  intro p e s m args below meth c LS hx hb hml hr hlk hown hts hE hl
  obtain ⟨⟨adV, hV⟩, hZ, hZq, hR⟩ := hE
  have hS : va_S qj_N s.heap s.heap [] := va_S.rf
  refine va_gets hx hb hZ hS hown (hts _ (qj_jw 2 hJ rfl)) (fun _ q => q) dJ0_isLatin1_aae02_0 ?_
  refine lv_if_eq (tgt := 17) hx hb dJ0_isLatin1_aae02_3 (by decide) (fun q => absurd q (by decide)) (fun _ => ?_)
  refine lv_aload_n hx hb dJ0_isLatin1_aae02_6 rfl (lv_at hl 0 rfl) ?_
  refine vk_getf hx hb (hV.1 i hi).2.1 hS hown (hts _ (qj_jw 1 hJ rfl)) (fun _ q => q) dJ0_isLatin1_aae02_7 ?_
  refine lv_if_ne (tgt := 17) hx hb dJ0_isLatin1_aae02_10 (by decide) (fun q => absurd rfl q) (fun _ => ?_)
  refine lv_iconst (v := 1) hx hb dJ0_isLatin1_aae02_13 (by decide) ?_
  refine lv_goto (tgt := 18) hx hb dJ0_isLatin1_aae02_14 (by decide) ?_
  exact W.zret hx hb hr rfl (fun t ht _ => ⟨rfl, ht⟩) (fun q hq => by cases hq) dJ0_isLatin1_aae02_18 hlk
theorem qj_length (hJ : ∀ w ∈ qm_jw, w ∈ G) (hG : ∀ w ∈ G, (w.onTables && w.keeps) = true ∨ ∃ ty, w = Cond.arrayClass ty) (l : Launch) {i : Nat} (hi : i < 13) : Met l yJ0_length_8abf5 (Cond.code yJ0_length_8abf5 cJ0_length_8abf5 1 (some .int) :: G) (qm_rm 1) (qj_P α [.ref (α (1000 + i))]) (qj_Q (some (.int (Int32.ofNat (qm_sl.getD i 0))))) 0 0 qj_N := by
  refine qj_ofW (by decide +kernel) (Nat.le_of_ble_eq_true rfl) ?_
  intro p e s m args below meth c LS hx hb hml hr hlk hown hts hE hl
  have hE0 := hE
  obtain ⟨⟨adV, hV⟩, hZ, hZq, hR⟩ := hE
  have hS : va_S qj_N s.heap s.heap [] := va_S.rf
  refine lv_aload_n hx hb dJ0_length_8abf5_0 rfl (lv_at hl 0 rfl) ?_
  refine vk_getf hx hb (hV.1 i hi).2.2.1 hS hown (hts _ (qj_jw 0 hJ rfl)) (fun _ q => q) dJ0_length_8abf5_1 ?_
  refine va_tlen hx hb (hV.1 i hi).2.2.2 hS rfl dJ0_length_8abf5_4 ?_
  refine lv_aload_n hx hb dJ0_length_8abf5_5 rfl (lv_at hl 0 rfl) ?_
  refine qj_call (w := some (.int 0)) (qj_callR (va_runV (b := α (1000 + i)) (C := RJ0) (As := []) (rest := [.int (Int32.ofNat (qm_sl.getD i 0))]) ⟨hx, hb, hml, hown, hts⟩ (qj_coder hJ l hi)
    ⟨qj_callB (n := 0) hts hG (qj_jw 7 hJ rfl) (qj_jw 4 hJ rfl) (qj_jw 10 hJ rfl) (by decide +kernel) (by decide +kernel) (Nat.le_of_ble_eq_true rfl) (Nat.le_of_ble_eq_true rfl), hts _ (qj_jw 8 hJ rfl), hts _ (qj_jw 9 hJ rfl)⟩
    ⟨qj_blind, vk_recv (adK := fun i => α (1000 + i)) (i := i) hV hi hS, fun U hU hW => ⟨rfl, hE0.to hS hW hU (fun _ q => q)⟩⟩ rfl rfl hl.1 rfl (Nat.le_of_ble_eq_true rfl) dJ0_length_8abf5_6 ⟨Nat.zero_le _, Nat.zero_le _⟩)) ?_
  refine lv_ishr hx hb dJ0_length_8abf5_9 ?_
  have h13 : ∀ i, i < 13 → Int32.ofNat (qm_sl.getD i 0) >>> ((0 : Int32) &&& 31) = Int32.ofNat (qm_sl.getD i 0) := by decide +kernel
  rw [h13 i hi]
  exact W.iret hx hb hr (fun t ht _ => ⟨rfl, ht⟩) (fun q hq => by cases hq) dJ0_length_8abf5_10 hlk
/-- checkIndex of a good place -/
theorem qj_chk3 (hJ : ∀ w ∈ qm_jw, w ∈ G) (l : Launch) {j n : Int32} {v : Value} (hv : v = .null ∨ ∃ a, v = .ref a) (h0 : ¬ j < 0) (hn : j < n) : Met l yJ3_checkIndex_8e157 (Cond.code yJ3_checkIndex_8e157 cJ3_checkIndex_8e157 3 (some .int) :: G) (qm_rm 0) (qj_P α [.int j, .int n, v]) (qj_Q (some (.int j))) 0 0 qj_N := by
  refine qj_ofW (by decide +kernel) (by rcases hv with rfl | ⟨a, rfl⟩ <;> exact Nat.le_of_ble_eq_true rfl) ?_
  intro p e s m args below meth c LS hx hb hml hr hlk hown hts hE hl
  have hl : lv_has LS 3 [(0, .int j), (1, .int n), (2, v)] := by rcases hv with rfl | ⟨a, rfl⟩ <;> exact hl
  refine lv_iload_n hx hb dJ3_checkIndex_8e157_0 rfl (lv_at hl 0 rfl) ?_
  refine lv_if_lt (tgt := 9) hx hb dJ3_checkIndex_8e157_1 (by decide) (fun q => absurd q h0) (fun _ => ?_)
  refine lv_iload_n hx hb dJ3_checkIndex_8e157_4 rfl (lv_at hl 0 rfl) ?_
  refine lv_iload_n hx hb dJ3_checkIndex_8e157_5 rfl (lv_at hl 1 rfl) ?_
  refine lv_icmp_lt (tgt := 16) hx hb dJ3_checkIndex_8e157_6 (by decide) (fun _ => ?_) (fun q => absurd hn q)
  refine lv_iload_n hx hb dJ3_checkIndex_8e157_16 rfl (lv_at hl 0 rfl) ?_
  exact W.iret hx hb hr (fun t ht _ => ⟨rfl, ht⟩) (fun q hq => by cases hq) dJ3_checkIndex_8e157_17 hlk
theorem qj_chk0 (hJ : ∀ w ∈ qm_jw, w ∈ G) (hG : ∀ w ∈ G, (w.onTables && w.keeps) = true ∨ ∃ ty, w = Cond.arrayClass ty) (l : Launch) {j n : Int32} (h0 : ¬ j < 0) (hn : j < n) : Met l yJ0_checkIndex_df160 (Cond.code yJ0_checkIndex_df160 cJ0_checkIndex_df160 2 none :: G) (qm_rm 1) (qj_P α [.int j, .int n]) (qj_Q none) 0 0 qj_N := by
  refine qj_ofW (by decide +kernel) (Nat.le_of_ble_eq_true rfl) ?_
  intro p e s m args below meth c LS hx hb hml hr hlk hown hts hE hl
  have hE0 := hE
  obtain ⟨⟨adV, hV⟩, hZ, hZq, hR⟩ := hE
  have hS : va_S qj_N s.heap s.heap [] := va_S.rf
  refine lv_iload_n hx hb dJ0_checkIndex_df160_0 rfl (lv_at hl 0 rfl) ?_
  refine lv_iload_n hx hb dJ0_checkIndex_df160_1 rfl (lv_at hl 1 rfl) ?_
  have go : ∀ v : Value, (v = .null ∨ ∃ a, v = .ref a) → va_Z RJ3 "SIOOBE_FORMATTER" "Ljava/util/function/BiFunction;" v qj_N s s.heap → W p l e (qm_rm 1) s m args below meth c s.heap [] 0 0 (MQ below (qj_Q none) args s 0 0 qj_N) (F0 m 2 LS [.int n, .int j]) := by
    intro v hv hZv
    refine va_gets hx hb hZv hS hown (hts _ (qj_jw 3 hJ rfl)) (fun _ q => q) dJ0_checkIndex_df160_2 ?_
    refine qj_call (w := some (.int j)) (rest := []) (qj_callR (va_runS (As := [.int j, .int n, v]) (rest := []) ⟨hx, hb, hml, hown, hts⟩ (qj_chk3 hJ l hv h0 hn)
      ⟨qj_callB (n := 3) hts hG (qj_jw 21 hJ rfl) (qj_jw 6 hJ rfl) (qj_jw 23 hJ rfl) (by decide +kernel) (by decide +kernel) (Nat.le_of_ble_eq_true rfl) (Nat.le_of_ble_eq_true rfl), hts _ (qj_jw 22 hJ rfl)⟩
      ⟨qj_blind, fun U hU hW => ⟨rfl, hE0.to hS hW hU (fun _ q => q)⟩⟩ rfl rfl hl.1 rfl (Nat.le_of_ble_eq_true rfl) dJ0_checkIndex_df160_5 ⟨Nat.zero_le _, Nat.zero_le _⟩)) ?_
    refine lv_pop hx hb dJ0_checkIndex_df160_8 rfl ?_
    exact W.vret hx hb hr (fun t ht _ => ⟨rfl, ht⟩) (fun q hq => by cases hq) dJ0_checkIndex_df160_9 hlk
  rcases hZq with h | ⟨a, h⟩
  · exact go .null (Or.inl rfl) h
  · exact go (.ref a) (Or.inr ⟨a, rfl⟩) h
theorem qj_bytes : ∀ i, i < 13 → ∀ k, k < qm_sl.getD i 0 → (((qm_str.getD i []).getD k 0 &&& 255).toUInt32 % 65536).toInt32 = (qm_str.getD i []).getD k 0 ∧ narrow .char (.int ((qm_str.getD i []).getD k 0)) = .int ((qm_str.getD i []).getD k 0) := by decide +kernel
theorem qj_sl_lt : ∀ i, i < 13 → qm_sl.getD i 0 < 2 ^ 31 := by decide +kernel
theorem qj_charL (hJ : ∀ w ∈ qm_jw, w ∈ G) (hG : ∀ w ∈ G, (w.onTables && w.keeps) = true ∨ ∃ ty, w = Cond.arrayClass ty) (l : Launch) {i k av : Nat} (hi : i < 13) (hk : k < qm_sl.getD i 0) :
    Met l yJ1_charAt_3b067 (Cond.code yJ1_charAt_3b067 cJ1_charAt_3b067 2 (some .char) :: G) (qm_rm 2) (va_Pc [.ref av, .int (nI k)] (fun U => qm_E α qj_N U U.heap ∧ va_T .byte av (qm_sl.getD i 0) (fun j => .int ((qm_str.getD i []).getD j 0)) qj_N U U.heap)) (qj_Q (some (.int ((qm_str.getD i []).getD k 0)))) 0 0 qj_N := by
  refine Met.ofW (cc := cJ1_charAt_3b067) (maxL := 2) (ret := some .char) (by decide +kernel) rfl ?_
  intro p e s m args below meth c s₁ B hml hv
  obtain ⟨rfl, hE, hT⟩ := hv
  have hts0 := atoms_spec (ws := Cond.code yJ1_charAt_3b067 cJ1_charAt_3b067 2 (some .char) :: G) B.pre
  have hts : ∀ w ∈ G, w.before _ s = true := fun w hw => hts0 w (List.mem_cons_of_mem _ hw)
  have hx := B.exec
  have hb := B.bytes
  have hr := B.returns
  have hlk := B.notSynchronized
  have hown : s.vm.findClass RJ1 = some m.cls := findClass_of_methodNamed B.named
  have hS : va_S qj_N s.heap s.heap [] := va_S.rf
  have hn := qj_sl_lt i hi
  rw [lg_entry_eq]
  have hl := lv_entry ([.ref av, .int (nI k)]) (n := 2) (Nat.le_of_ble_eq_true rfl)
  generalize (lg_sl ([.ref av, .int (nI k)]) ++ List.replicate (2 - (lg_sl ([.ref av, .int (nI k)])).length) Slot.unset).toArray = LS at hl ⊢
  refine lv_iload_n hx hb dJ1_charAt_3b067_0 rfl (lv_at hl 1 rfl) ?_
  refine lv_aload_n hx hb dJ1_charAt_3b067_1 rfl (lv_at hl 0 rfl) ?_
  refine va_tlen hx hb hT hS rfl dJ1_charAt_3b067_2 ?_
  refine qj_call (w := none) (rest := []) (qj_callR (va_runS (As := [.int (nI k), .int (Int32.ofNat (qm_sl.getD i 0))]) (rest := []) ⟨hx, hb, hml, hown, hts⟩ (qj_chk0 hJ hG l (nI_pos (by omega)) (nI_lt hk hn))
    ⟨qj_callB (n := 2) hts hG (qj_jw 18 hJ rfl) (qj_jw 4 hJ rfl) (qj_jw 20 hJ rfl) (by decide +kernel) (by decide +kernel) (Nat.le_of_ble_eq_true rfl) (Nat.le_of_ble_eq_true rfl), hts _ (qj_jw 19 hJ rfl)⟩
    ⟨qj_blind, fun U hU hW => ⟨rfl, hE.to hS hW hU (fun _ q => q)⟩⟩ rfl rfl hl.1 rfl (Nat.le_of_ble_eq_true rfl) dJ1_charAt_3b067_3 ⟨Nat.zero_le _, Nat.zero_le _⟩)) ?_
  refine lv_aload_n hx hb dJ1_charAt_3b067_6 rfl (lv_at hl 0 rfl) ?_
  refine lv_iload_n hx hb dJ1_charAt_3b067_7 rfl (lv_at hl 1 rfl) ?_
  refine va_tb hx hb hT hS (vp_in_nI hk hn) (v := .int ((qm_str.getD i []).getD k 0)) (by rw [nI_clamp (by omega)]) dJ1_charAt_3b067_8 ?_
  refine lv_sipush (v := 255) hx hb dJ1_charAt_3b067_9 (by decide) ?_
  refine lv_iand hx hb dJ1_charAt_3b067_12 ?_
  refine lv_i2c hx hb dJ1_charAt_3b067_13 (qj_bytes i hi k hk).1 ?_
  exact W.zret hx hb hr (qj_bytes i hi k hk).2 (fun t ht _ => ⟨rfl, ht⟩) (fun q hq => by cases hq) dJ1_charAt_3b067_14 hlk
theorem qj_charAt (hJ : ∀ w ∈ qm_jw, w ∈ G) (hG : ∀ w ∈ G, (w.onTables && w.keeps) = true ∨ ∃ ty, w = Cond.arrayClass ty) (l : Launch) {i k : Nat} (hi : i < 13) (hk : k < qm_sl.getD i 0) : Met l yJ0_charAt_5068e (Cond.code yJ0_charAt_5068e cJ0_charAt_5068e 2 (some .char) :: G) (qm_rm 3) (qj_P α [.ref (α (1000 + i)), .int (nI k)]) (qj_Q (some (.int ((qm_str.getD i []).getD k 0)))) 0 0 qj_N := by
  refine qj_ofW (by decide +kernel) (Nat.le_of_ble_eq_true rfl) ?_
  intro p e s m args below meth c LS hx hb hml hr hlk hown hts hE hl
  have hE0 := hE
  obtain ⟨⟨adV, hV⟩, hZ, hZq, hR⟩ := hE
  have hS : va_S qj_N s.heap s.heap [] := va_S.rf
  refine lv_aload_n hx hb dJ0_charAt_5068e_0 rfl (lv_at hl 0 rfl) ?_
  refine qj_call (w := some (.int 1)) (rest := []) (qj_callR (va_runV (b := α (1000 + i)) (C := RJ0) (As := []) (rest := []) ⟨hx, hb, hml, hown, hts⟩ (qj_isLatin1 hJ l hi)
    ⟨qj_callB (n := 0) hts hG (qj_jw 11 hJ rfl) (qj_jw 4 hJ rfl) (qj_jw 14 hJ rfl) (by decide +kernel) (by decide +kernel) (Nat.le_of_ble_eq_true rfl) (Nat.le_of_ble_eq_true rfl), hts _ (qj_jw 12 hJ rfl), hts _ (qj_jw 13 hJ rfl)⟩
    ⟨qj_blind, vk_recv (adK := fun i => α (1000 + i)) (i := i) hV hi hS, fun U hU hW => ⟨rfl, hE0.to hS hW hU (fun _ q => q)⟩⟩ rfl rfl hl.1 rfl (Nat.le_of_ble_eq_true rfl) dJ0_charAt_5068e_1 ⟨Nat.zero_le _, Nat.zero_le _⟩)) ?_
  refine lv_if_eq (tgt := 16) hx hb dJ0_charAt_5068e_4 (by decide) (fun q => absurd q (by decide)) (fun _ => ?_)
  refine lv_aload_n hx hb dJ0_charAt_5068e_7 rfl (lv_at hl 0 rfl) ?_
  refine vk_getf hx hb (hV.1 i hi).2.2.1 hS hown (hts _ (qj_jw 0 hJ rfl)) (fun _ q => q) dJ0_charAt_5068e_8 ?_
  refine lv_iload_n hx hb dJ0_charAt_5068e_11 rfl (lv_at hl 1 rfl) ?_
  refine qj_call (w := some (.int ((qm_str.getD i []).getD k 0))) (rest := []) (qj_callR (va_runS (As := [.ref (adV i), .int (nI k)]) (rest := []) ⟨hx, hb, hml, hown, hts⟩ (qj_charL hJ hG l (av := adV i) hi hk)
    ⟨qj_callB (n := 2) hts hG (qj_jw 15 hJ rfl) (qj_jw 5 hJ rfl) (qj_jw 17 hJ rfl) (by decide +kernel) (by decide +kernel) (Nat.le_of_ble_eq_true rfl) (Nat.le_of_ble_eq_true rfl), hts _ (qj_jw 16 hJ rfl)⟩
    ⟨fun a U g mk q => ⟨q.1, q.2.1.calling, va_T.moved (U := U.calling g mk a) (Vm.Alike.refl U.vm) q.2.2⟩, fun U hU hW => ⟨rfl, hE0.to hS hW hU (fun _ q => q), by rw [hU]; exact va_T.moved hW.alike (hV.1 i hi).2.2.2⟩⟩ rfl rfl hl.1 rfl (Nat.le_of_ble_eq_true rfl) dJ0_charAt_5068e_12 ⟨Nat.zero_le _, Nat.zero_le _⟩)) ?_
  exact W.zret hx hb hr (qj_bytes i hi k hk).2 (fun t ht _ => ⟨rfl, ht⟩) (fun q hq => by cases hq) dJ0_charAt_5068e_15 hlk
end QJ
