/-! ===== the sheets' constructor ===== -/
set_option maxRecDepth 100000 in
theorem qn_v97 : (Jvm.Cond.instanceMethod ({ cls := "java/lang/Object", name := "<init>", desc := "()V" } : Jvm.MethodName)) ∈ qm_G := qm_inW (i := 97) (by decide +kernel) rfl
set_option maxRecDepth 100000 in
theorem qn_v98 : (Jvm.Cond.code ({ cls := "java/lang/Object", name := "<init>", desc := "()V" } : Jvm.MethodName) object_method_1_code (1 : Nat) (Option.none : Option Jvm.ClassFile.FieldType)) ∈ qm_G := qm_inW (i := 98) (by decide +kernel) rfl
set_option maxRecDepth 100000 in
theorem qn_v152 : (Jvm.Cond.arrayClass Jvm.ClassFile.FieldType.int) ∈ qm_G := qm_inW (i := 152) (by decide +kernel) rfl
set_option maxRecDepth 100000 in
theorem qn_v380 : (Jvm.Cond.methodLink "FirstColour$Sheets" (3 : Nat) ({ cls := "java/lang/Object", name := "<init>", desc := "()V" } : Jvm.MethodName)) ∈ qm_G := qm_inW (i := 380) (by decide +kernel) rfl
set_option maxRecDepth 100000 in
theorem qn_v381 : (Jvm.Cond.classLink "FirstColour$Sheets" (9 : Nat) "[[I") ∈ qm_G := qm_inW (i := 381) (by decide +kernel) rfl
set_option maxRecDepth 100000 in
theorem qn_v385 : (Jvm.Cond.fieldLink "FirstColour$Sheets" (11 : Nat) "FirstColour$Sheets" "rows" "[[I") ∈ qm_G := qm_inW (i := 385) (by decide +kernel) rfl
set_option maxRecDepth 100000 in
theorem qn_v387 : (Jvm.Cond.fieldLink "FirstColour$Sheets" (16 : Nat) "FirstColour$Sheets" "sizes" "[I") ∈ qm_G := qm_inW (i := 387) (by decide +kernel) rfl
set_option maxRecDepth 100000 in
theorem qn_v390 : (Jvm.Cond.fieldLink "FirstColour$Sheets" (20 : Nat) "FirstColour$Sheets" "sorts" "[I") ∈ qm_G := qm_inW (i := 390) (by decide +kernel) rfl
set_option maxRecDepth 100000 in
theorem qm_cs4 : ∀ w ∈ u_ws RX5 TX5 3, w ∈ qm_G := qm_allG (by decide +kernel)
def qn_ov (U : State) : Prop := ∀ a : Array Value, (Cond.arrayOver (.array .int)).before a U = true
theorem qn_ov.moved {u U : State} (hvm : u.vm.Alike U.vm) (h : qn_ov u) : qn_ov U := fun a => Jvm.Stand.arrayOver_alikeB hvm (h a)
theorem qn_Ec {α β : Nat → Nat} (h : ∀ i, α (1000 + i) = β (1000 + i)) {A : Nat → Prop} {U : State} {H : Heap} (hE : qm_E β A U H) : qm_E α A U H := by
  have e : (fun i => α (1000 + i)) = fun i => β (1000 + i) := funext h
  obtain ⟨h1, h2, h3, h4⟩ := hE
  refine ⟨?_, h2, h3, fun i hi => ?_⟩
  · rw [e]; exact h1
  · rw [h i]; exact h4 i hi
def qn_aS (β : Nat → Nat) (h0 q r w : Nat) : Nat → Nat := fun k => if 1000 ≤ k then β k else match k with
  | 0 => h0
  | 1 => r
  | 2 => w
  | 3 => q
  | k + 4 => q + 1 + k
set_option maxHeartbeats 4000000 in
set_option maxRecDepth 100000 in
theorem n_X5_init (l : Launch) (D : va_G) (cA cR : ClassId) (β : Nat → Nat) (h0 sz : Nat) : Met l yX5_init (Cond.code yX5_init cX5_init 1 none :: qm_G) ({ frames := 7, cells := 7, slots := 172, locals := 448 }) (va_Pc [.ref h0] (fun U => U.heap.size = sz ∧ va_P D vwCl [(h0, .inr (4, [.null, .null, .null]))] U.heap ∧ va_K D vwCl (qm_ty cA cR) U ∧ va_D (fun _ => True) [(h0, .inr (4, [.null, .null, .null]))] ∧ qm_E β (va_A [(h0, .inr (4, [.null, .null, .null]))] sz) U U.heap ∧ qn_ov U)) (va_Qv (fun u : (Nat → Nat) × qm_St => u.1 0 = h0 ∧ (∀ i, i < 4 → qm_rF u.2 33 i = 0 ∧ qm_rF u.2 34 i = -1) ∧ ∀ j, 35 ≤ j → j < 39 → ∀ i, qm_rF u.2 j i = 0) (fun (u : (Nat → Nat) × qm_St) U => va_P D vwCl (qm_W u.1 cA cR qn_layS u.2) U.heap ∧ va_K D vwCl (qm_ty cA cR) U ∧ va_D (va_A [(h0, .inr (4, [.null, .null, .null]))] sz) (qm_W u.1 cA cR qn_layS u.2)) (va_A [(h0, .inr (4, [.null, .null, .null]))] sz)) 7 172 (va_A [(h0, .inr (4, [.null, .null, .null]))] sz) := by
  refine Met.ofW (cc := cX5_init) (maxL := 1) (ret := none) (by decide) rfl ?_
  intro p e s m args below meth c s₁ B hml hv
  obtain ⟨rfl, hsz, hP, hK, hD0, hE, hov⟩ := hv
  have hx := B.exec
  have hb := B.bytes
  have hr := B.returns
  have hts := atoms_spec (ws := Cond.code yX5_init cX5_init 1 none :: qm_G) B.pre
  have hG : ∀ w ∈ qm_G, w.before #[.ref h0] s = true := fun w hw => hts w (List.mem_cons_of_mem _ hw)
  have hown : s.vm.findClass RX5 = some m.cls := findClass_of_methodNamed B.named
  have hlocks := B.notSynchronized
  have hin : meth.name = "<init>" := (name_of_methodNamed B.named B.method).1
  subst hsz
  have hD := hD0.self (sz := s.heap.size)
  generalize hAe : va_A [(h0, .inr (4, [.null, .null, .null]))] s.heap.size = A at hD hE ⊢
  have hA : ∀ q : Nat, s.heap.size ≤ q → A q := fun q h => by rw [← hAe]; exact Or.inr h
  have hS : va_S A s.heap s.heap [] := va_S.rf
  have hP : va_P D vwCl [(h0, .inr (4, [.null, .null, .null]))] s.heap := hP
  have hl := lv_entry ([.ref h0]) (n := 1) (Nat.le_of_ble_eq_true rfl)
  rw [lg_entry_eq]
  generalize (lg_sl ([.ref h0]) ++ List.replicate (1 - (lg_sl ([.ref h0])).length) Slot.unset).toArray = ls at hl ⊢
  have hl : lv_has ls 1 [(0, .ref h0)] := hl
  refine lv_aload_n hx hb dX5_init_0 rfl (lv_at hl 0 rfl) ?_
  refine W.objInit hx hb hown (hG _ qn_v380) (hG _ qn_v97) (hG _ qn_v98) rfl (by rw [hml]; exact hl.1) rfl dX5_init_1 (Nat.le_of_ble_eq_true rfl) (Nat.le_of_ble_eq_true rfl) ?_
  refine W.eq (g2 := F0 m 4 ls []) rfl ?_
  refine lv_aload_n hx hb dX5_init_4 rfl (lv_at hl 0 rfl) ?_
  refine lv_iconst hx hb dX5_init_5 rfl ?_
  refine lv_bipush hx hb dX5_init_6 rfl ?_
  refine qn_multi hx hb hown (index := 9) (hG _ qn_v381) (hov _) (hG _ qn_v152) hK hP hD hS hA (N := 4) (M := 40) (by decide) (by decide) rfl rfl (by decide) (by decide) (by decide) (Nat.le_of_ble_eq_true rfl) (Nat.le_of_ble_eq_true rfl) dX5_init_8 (fun q H hP hD hS => ?_)
  have hP : va_P D vwCl [(h0, .inr (4, [.null, .null, .null])), (q, .inl (cR, 4, .inr (.inr (.inr (.inr (fun i => some (q + 1 + i))))))), (q + 1 + 0, .inl (cA, 40, .inl (fun _ => 0))), (q + 1 + 1, .inl (cA, 40, .inl (fun _ => 0))), (q + 1 + 2, .inl (cA, 40, .inl (fun _ => 0))), (q + 1 + 3, .inl (cA, 40, .inl (fun _ => 0)))] H := hP
  have hD : va_D A [(h0, .inr (4, [.null, .null, .null])), (q, .inl (cR, 4, .inr (.inr (.inr (.inr (fun i => some (q + 1 + i))))))), (q + 1 + 0, .inl (cA, 40, .inl (fun _ => 0))), (q + 1 + 1, .inl (cA, 40, .inl (fun _ => 0))), (q + 1 + 2, .inl (cA, 40, .inl (fun _ => 0))), (q + 1 + 3, .inl (cA, 40, .inl (fun _ => 0)))] := hD
  refine va_putF (D := D) (ci := 4) (v := .ref q) (ty := .array (.array .int)) (C := RX5) (T := TX5) (N := 3) (Ts := qm_G) hx hb hG qm_cs4 tyX5 tyX5_ok nmX5 hown hK hP hD hS 0 rfl rfl 0 (by decide) (hG _ qn_v385) (fun _ h9 => h9) rfl hin rfl (by decide +kernel) rfl rfl (Nat.le_of_ble_eq_true rfl) dX5_init_12 (fun H locs hP hD hS => ?_)
  have hP : va_P D vwCl [(h0, .inr (4, [.ref q, .null, .null])), (q, .inl (cR, 4, .inr (.inr (.inr (.inr (fun i => some (q + 1 + i))))))), (q + 1 + 0, .inl (cA, 40, .inl (fun _ => 0))), (q + 1 + 1, .inl (cA, 40, .inl (fun _ => 0))), (q + 1 + 2, .inl (cA, 40, .inl (fun _ => 0))), (q + 1 + 3, .inl (cA, 40, .inl (fun _ => 0)))] H := hP
  have hD : va_D A [(h0, .inr (4, [.ref q, .null, .null])), (q, .inl (cR, 4, .inr (.inr (.inr (.inr (fun i => some (q + 1 + i))))))), (q + 1 + 0, .inl (cA, 40, .inl (fun _ => 0))), (q + 1 + 1, .inl (cA, 40, .inl (fun _ => 0))), (q + 1 + 2, .inl (cA, 40, .inl (fun _ => 0))), (q + 1 + 3, .inl (cA, 40, .inl (fun _ => 0)))] := hD
  refine lv_aload_n hx hb dX5_init_15 rfl (lv_at hl 0 rfl) ?_
  refine lv_iconst hx hb dX5_init_16 rfl ?_
  refine qn_newa hx hb (hG _ qn_v152) hK hP hD hS hA (N := 4) (by decide) rfl (by decide) (Nat.le_of_ble_eq_true rfl) (Nat.le_of_ble_eq_true rfl) dX5_init_17 (fun r H hP hD hS => ?_)
  have hP : va_P D vwCl [(h0, .inr (4, [.ref q, .null, .null])), (q, .inl (cR, 4, .inr (.inr (.inr (.inr (fun i => some (q + 1 + i))))))), (q + 1 + 0, .inl (cA, 40, .inl (fun _ => 0))), (q + 1 + 1, .inl (cA, 40, .inl (fun _ => 0))), (q + 1 + 2, .inl (cA, 40, .inl (fun _ => 0))), (q + 1 + 3, .inl (cA, 40, .inl (fun _ => 0))), (r, .inl (cA, 4, .inl (fun _ => 0)))] H := hP
  have hD : va_D A [(h0, .inr (4, [.ref q, .null, .null])), (q, .inl (cR, 4, .inr (.inr (.inr (.inr (fun i => some (q + 1 + i))))))), (q + 1 + 0, .inl (cA, 40, .inl (fun _ => 0))), (q + 1 + 1, .inl (cA, 40, .inl (fun _ => 0))), (q + 1 + 2, .inl (cA, 40, .inl (fun _ => 0))), (q + 1 + 3, .inl (cA, 40, .inl (fun _ => 0))), (r, .inl (cA, 4, .inl (fun _ => 0)))] := hD
  refine va_putF (D := D) (ci := 4) (v := .ref r) (ty := .array .int) (C := RX5) (T := TX5) (N := 3) (Ts := qm_G) hx hb hG qm_cs4 tyX5 tyX5_ok nmX5 hown hK hP hD hS 0 rfl rfl 1 (by decide) (hG _ qn_v387) (fun _ h9 => h9) rfl hin rfl (by decide +kernel) rfl rfl (Nat.le_of_ble_eq_true rfl) dX5_init_19 (fun H locs hP hD hS => ?_)
  have hP : va_P D vwCl [(h0, .inr (4, [.ref q, .ref r, .null])), (q, .inl (cR, 4, .inr (.inr (.inr (.inr (fun i => some (q + 1 + i))))))), (q + 1 + 0, .inl (cA, 40, .inl (fun _ => 0))), (q + 1 + 1, .inl (cA, 40, .inl (fun _ => 0))), (q + 1 + 2, .inl (cA, 40, .inl (fun _ => 0))), (q + 1 + 3, .inl (cA, 40, .inl (fun _ => 0))), (r, .inl (cA, 4, .inl (fun _ => 0)))] H := hP
  have hD : va_D A [(h0, .inr (4, [.ref q, .ref r, .null])), (q, .inl (cR, 4, .inr (.inr (.inr (.inr (fun i => some (q + 1 + i))))))), (q + 1 + 0, .inl (cA, 40, .inl (fun _ => 0))), (q + 1 + 1, .inl (cA, 40, .inl (fun _ => 0))), (q + 1 + 2, .inl (cA, 40, .inl (fun _ => 0))), (q + 1 + 3, .inl (cA, 40, .inl (fun _ => 0))), (r, .inl (cA, 4, .inl (fun _ => 0)))] := hD
  refine lv_aload_n hx hb dX5_init_22 rfl (lv_at hl 0 rfl) ?_
  refine lv_iconst hx hb dX5_init_23 rfl ?_
  refine qn_newa hx hb (hG _ qn_v152) hK hP hD hS hA (N := 4) (by decide) rfl (by decide) (Nat.le_of_ble_eq_true rfl) (Nat.le_of_ble_eq_true rfl) dX5_init_24 (fun w H hP hD hS => ?_)
  have hP : va_P D vwCl [(h0, .inr (4, [.ref q, .ref r, .null])), (q, .inl (cR, 4, .inr (.inr (.inr (.inr (fun i => some (q + 1 + i))))))), (q + 1 + 0, .inl (cA, 40, .inl (fun _ => 0))), (q + 1 + 1, .inl (cA, 40, .inl (fun _ => 0))), (q + 1 + 2, .inl (cA, 40, .inl (fun _ => 0))), (q + 1 + 3, .inl (cA, 40, .inl (fun _ => 0))), (r, .inl (cA, 4, .inl (fun _ => 0))), (w, .inl (cA, 4, .inl (fun _ => 0)))] H := hP
  have hD : va_D A [(h0, .inr (4, [.ref q, .ref r, .null])), (q, .inl (cR, 4, .inr (.inr (.inr (.inr (fun i => some (q + 1 + i))))))), (q + 1 + 0, .inl (cA, 40, .inl (fun _ => 0))), (q + 1 + 1, .inl (cA, 40, .inl (fun _ => 0))), (q + 1 + 2, .inl (cA, 40, .inl (fun _ => 0))), (q + 1 + 3, .inl (cA, 40, .inl (fun _ => 0))), (r, .inl (cA, 4, .inl (fun _ => 0))), (w, .inl (cA, 4, .inl (fun _ => 0)))] := hD
  refine va_putF (D := D) (ci := 4) (v := .ref w) (ty := .array .int) (C := RX5) (T := TX5) (N := 3) (Ts := qm_G) hx hb hG qm_cs4 tyX5 tyX5_ok nmX5 hown hK hP hD hS 0 rfl rfl 2 (by decide) (hG _ qn_v390) (fun _ h9 => h9) rfl hin rfl (by decide +kernel) rfl rfl (Nat.le_of_ble_eq_true rfl) dX5_init_26 (fun H locs hP hD hS => ?_)
  have hP : va_P D vwCl [(h0, .inr (4, [.ref q, .ref r, .ref w])), (q, .inl (cR, 4, .inr (.inr (.inr (.inr (fun i => some (q + 1 + i))))))), (q + 1 + 0, .inl (cA, 40, .inl (fun _ => 0))), (q + 1 + 1, .inl (cA, 40, .inl (fun _ => 0))), (q + 1 + 2, .inl (cA, 40, .inl (fun _ => 0))), (q + 1 + 3, .inl (cA, 40, .inl (fun _ => 0))), (r, .inl (cA, 4, .inl (fun _ => 0))), (w, .inl (cA, 4, .inl (fun _ => 0)))] H := hP
  have hD : va_D A [(h0, .inr (4, [.ref q, .ref r, .ref w])), (q, .inl (cR, 4, .inr (.inr (.inr (.inr (fun i => some (q + 1 + i))))))), (q + 1 + 0, .inl (cA, 40, .inl (fun _ => 0))), (q + 1 + 1, .inl (cA, 40, .inl (fun _ => 0))), (q + 1 + 2, .inl (cA, 40, .inl (fun _ => 0))), (q + 1 + 3, .inl (cA, 40, .inl (fun _ => 0))), (r, .inl (cA, 4, .inl (fun _ => 0))), (w, .inl (cA, 4, .inl (fun _ => 0)))] := hD
  have eE : ∀ i, qn_aS β h0 q r w (1000 + i) = β (1000 + i) := fun i => if_pos (by omega)
  have hP2 := hP.sub (ws' := [(h0, .inr (4, [.ref q, .ref r, .ref w])), (r, .inl (cA, 4, .inl (fun _ => 0))), (w, .inl (cA, 4, .inl (fun _ => 0))), (q, .inl (cR, 4, .inr (.inr (.inr (.inr (fun i => some (q + 1 + i))))))), (q + 1 + 0, .inl (cA, 40, .inl (fun _ => 0))), (q + 1 + 1, .inl (cA, 40, .inl (fun _ => 0))), (q + 1 + 2, .inl (cA, 40, .inl (fun _ => 0))), (q + 1 + 3, .inl (cA, 40, .inl (fun _ => 0)))]) [0, 6, 7, 1, 2, 3, 4, 5] rfl
  have hD2 := hD.sub (ws' := [(h0, .inr (4, [.ref q, .ref r, .ref w])), (r, .inl (cA, 4, .inl (fun _ => 0))), (w, .inl (cA, 4, .inl (fun _ => 0))), (q, .inl (cR, 4, .inr (.inr (.inr (.inr (fun i => some (q + 1 + i))))))), (q + 1 + 0, .inl (cA, 40, .inl (fun _ => 0))), (q + 1 + 1, .inl (cA, 40, .inl (fun _ => 0))), (q + 1 + 2, .inl (cA, 40, .inl (fun _ => 0))), (q + 1 + 3, .inl (cA, 40, .inl (fun _ => 0)))]) [0, 6, 7, 1, 2, 3, 4, 5] (by decide) rfl
  have hP3 := qn_set hP2 (k := 3) (g := fun i => some (qn_aS β h0 q r w (4 + i))) rfl (fun i hi => by unfold qn_aS; rw [if_neg (by omega), Nat.add_comm 4 i])
  have hD3 : va_D A ([(h0, .inr (4, [.ref q, .ref r, .ref w])), (r, .inl (cA, 4, .inl (fun _ => 0))), (w, .inl (cA, 4, .inl (fun _ => 0))), (q, .inl (cR, 4, .inr (.inr (.inr (.inr (fun i => some (q + 1 + i))))))), (q + 1 + 0, .inl (cA, 40, .inl (fun _ => 0))), (q + 1 + 1, .inl (cA, 40, .inl (fun _ => 0))), (q + 1 + 2, .inl (cA, 40, .inl (fun _ => 0))), (q + 1 + 3, .inl (cA, 40, .inl (fun _ => 0)))].set 3 (q, .inl (cR, 4, .inr (.inr (.inr (.inr (fun i => some (qn_aS β h0 q r w (4 + i)))))))) ) := hD2.set rfl
  obtain ⟨τ, hX, hs, hv⟩ := qn_fillS (σ := ((fun _ => 0), fun _ _ => 0))
  obtain ⟨n, hn⟩ := hX
  refine qn_imp (qm_walkR qm_jwG qn_wfS qm_pool_ok qm_G_good n 1 mX5_init 29 _ [] _ none τ hn qn_mokS _ _ _ (Nat.le_of_ble_eq_true rfl) (Nat.le_of_ble_eq_true rfl) (Nat.le_of_ble_eq_true rfl) (Nat.le_of_ble_eq_true rfl) p l e s m _ below meth c H locs ls A (qn_aS β h0 q r w) cA cR D hx hb hml hr hlocks hown hG hK hP3 hD3 hS hA ?_ (qn_Ec eE hE)) (fun t ht => ?_)
  · refine ⟨hl.1, rfl, hl.2.1, fun i v hv => ?_⟩
    cases i with
    | zero => cases hv; exact lv_at hl 0 rfl
    | succ i => cases hv
  · obtain ⟨o, h1, h2, ⟨⟨ho, hPt, hKt, hDt⟩, hF⟩, h4⟩ := ht
    exact ⟨o, h1, h2, ⟨⟨(qn_aS β h0 q r w, τ), ho, ⟨rfl, fun i hi => ⟨hs.2 33 (by omega) i, hv i hi⟩, fun j h1 h2 i => hs.2 j (by omega) i⟩, hPt, hKt, hDt⟩, hF⟩, h4⟩

