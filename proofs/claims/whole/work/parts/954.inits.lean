/-! ===== constructors that make rows of ints alone ===== -/
set_option maxRecDepth 100000 in
theorem qn_w97 : (Jvm.Cond.instanceMethod ({ cls := "java/lang/Object", name := "<init>", desc := "()V" } : Jvm.MethodName)) ∈ qm_G := qm_inW (i := 97) (by decide +kernel) rfl
set_option maxRecDepth 100000 in
theorem qn_w98 : (Jvm.Cond.code ({ cls := "java/lang/Object", name := "<init>", desc := "()V" } : Jvm.MethodName) object_method_1_code (1 : Nat) (Option.none : Option Jvm.ClassFile.FieldType)) ∈ qm_G := qm_inW (i := 98) (by decide +kernel) rfl
set_option maxRecDepth 100000 in
theorem qn_w104 : (Jvm.Cond.methodLink "FirstColour$Town" (3 : Nat) ({ cls := "java/lang/Object", name := "<init>", desc := "()V" } : Jvm.MethodName)) ∈ qm_G := qm_inW (i := 104) (by decide +kernel) rfl
set_option maxRecDepth 100000 in
theorem qn_w117 : (Jvm.Cond.fieldLink "FirstColour$Town" (9 : Nat) "FirstColour$Town" "kinds" "[I") ∈ qm_G := qm_inW (i := 117) (by decide +kernel) rfl
set_option maxRecDepth 100000 in
theorem qn_w119 : (Jvm.Cond.fieldLink "FirstColour$Town" (15 : Nat) "FirstColour$Town" "mores" "[I") ∈ qm_G := qm_inW (i := 119) (by decide +kernel) rfl
set_option maxRecDepth 100000 in
theorem qn_w122 : (Jvm.Cond.fieldLink "FirstColour$Town" (18 : Nat) "FirstColour$Town" "besides" "[I") ∈ qm_G := qm_inW (i := 122) (by decide +kernel) rfl
set_option maxRecDepth 100000 in
theorem qn_w127 : (Jvm.Cond.fieldLink "FirstColour$Town" (21 : Nat) "FirstColour$Town" "colours" "[I") ∈ qm_G := qm_inW (i := 127) (by decide +kernel) rfl
set_option maxRecDepth 100000 in
theorem qn_w130 : (Jvm.Cond.fieldLink "FirstColour$Town" (24 : Nat) "FirstColour$Town" "stamps" "[I") ∈ qm_G := qm_inW (i := 130) (by decide +kernel) rfl
set_option maxRecDepth 100000 in
theorem qn_w152 : (Jvm.Cond.arrayClass Jvm.ClassFile.FieldType.int) ∈ qm_G := qm_inW (i := 152) (by decide +kernel) rfl
set_option maxRecDepth 100000 in
theorem qn_w164 : (Jvm.Cond.methodLink "FirstColour$Reader" (3 : Nat) ({ cls := "java/lang/Object", name := "<init>", desc := "()V" } : Jvm.MethodName)) ∈ qm_G := qm_inW (i := 164) (by decide +kernel) rfl
set_option maxRecDepth 100000 in
theorem qn_w165 : (Jvm.Cond.fieldLink "FirstColour$Reader" (9 : Nat) "FirstColour$Reader" "code" "[I") ∈ qm_G := qm_inW (i := 165) (by decide +kernel) rfl
set_option maxRecDepth 100000 in
theorem qn_w167 : (Jvm.Cond.fieldLink "FirstColour$Reader" (15 : Nat) "FirstColour$Reader" "starts" "[I") ∈ qm_G := qm_inW (i := 167) (by decide +kernel) rfl
set_option maxRecDepth 100000 in
theorem qn_w169 : (Jvm.Cond.fieldLink "FirstColour$Reader" (18 : Nat) "FirstColour$Reader" "tape" "[I") ∈ qm_G := qm_inW (i := 169) (by decide +kernel) rfl
set_option maxRecDepth 100000 in
theorem qn_w404 : (Jvm.Cond.methodLink "FirstColour$Order" (3 : Nat) ({ cls := "java/lang/Object", name := "<init>", desc := "()V" } : Jvm.MethodName)) ∈ qm_G := qm_inW (i := 404) (by decide +kernel) rfl
set_option maxRecDepth 100000 in
theorem qn_w405 : (Jvm.Cond.fieldLink "FirstColour$Order" (9 : Nat) "FirstColour$Order" "lots" "[I") ∈ qm_G := qm_inW (i := 405) (by decide +kernel) rfl
set_option maxRecDepth 100000 in
theorem qn_w421 : (Jvm.Cond.methodLink "FirstColour$Search" (3 : Nat) ({ cls := "java/lang/Object", name := "<init>", desc := "()V" } : Jvm.MethodName)) ∈ qm_G := qm_inW (i := 421) (by decide +kernel) rfl
set_option maxRecDepth 100000 in
theorem qn_w439 : (Jvm.Cond.methodLink "FirstColour$Fits" (3 : Nat) ({ cls := "java/lang/Object", name := "<init>", desc := "()V" } : Jvm.MethodName)) ∈ qm_G := qm_inW (i := 439) (by decide +kernel) rfl
set_option maxRecDepth 100000 in
theorem qn_w440 : (Jvm.Cond.fieldLink "FirstColour$Fits" (11 : Nat) "FirstColour$Fits" "ways" "[I") ∈ qm_G := qm_inW (i := 440) (by decide +kernel) rfl
set_option maxRecDepth 100000 in
theorem qn_w441 : (Jvm.Cond.fieldLink "FirstColour$Fits" (15 : Nat) "FirstColour$Fits" "nexts" "[I") ∈ qm_G := qm_inW (i := 441) (by decide +kernel) rfl
set_option maxRecDepth 100000 in
theorem qm_cs0 : ∀ w ∈ u_ws RX0 TX0 3, w ∈ qm_G := qm_allG (by decide +kernel)
set_option maxRecDepth 100000 in
theorem qm_cs1 : ∀ w ∈ u_ws RX2 TX2 2, w ∈ qm_G := qm_allG (by decide +kernel)
set_option maxRecDepth 100000 in
theorem qm_cs2 : ∀ w ∈ u_ws RX3 TX3 10, w ∈ qm_G := qm_allG (by decide +kernel)
set_option maxRecDepth 100000 in
theorem qm_cs3 : ∀ w ∈ u_ws RX4 TX4 3, w ∈ qm_G := qm_allG (by decide +kernel)
set_option maxRecDepth 100000 in
theorem qm_cs6 : ∀ w ∈ u_ws RX7 TX7 9, w ∈ qm_G := qm_allG (by decide +kernel)
set_option maxHeartbeats 4000000 in
set_option maxRecDepth 100000 in
theorem n_X0_init (l : Launch) (D : va_G) (cA cR : ClassId) (h0 sz : Nat) : Met l yX0_init (Cond.code yX0_init cX0_init 1 none :: qm_G) ({ frames := 1, cells := 2, slots := 256, locals := 12 }) (va_Pc [.ref h0] (fun U => U.heap.size = sz ∧ va_P D vwCl [(h0, .inr (0, [.null, .null, .int 0]))] U.heap ∧ va_K D vwCl (qm_ty cA cR) U ∧ va_D (fun _ => True) [(h0, .inr (0, [.null, .null, .int 0]))])) (va_Qv (fun _ : Nat → Nat => True) (fun a U => va_P D vwCl [(h0, .inr (0, [.ref (a 0), .ref (a 1), .int 0])), (a 0, .inl (cA, 128, .inl (fun _ => 0))), (a 1, .inl (cA, 128, .inl (fun _ => 0)))] U.heap ∧ va_K D vwCl (qm_ty cA cR) U ∧ va_D (va_A [(h0, .inr (0, [.null, .null, .int 0]))] sz) [(h0, .inr (0, [.ref (a 0), .ref (a 1), .int 0])), (a 0, .inl (cA, 128, .inl (fun _ => 0))), (a 1, .inl (cA, 128, .inl (fun _ => 0)))]) (va_A [(h0, .inr (0, [.null, .null, .int 0]))] sz)) 2 256 (va_A [(h0, .inr (0, [.null, .null, .int 0]))] sz) := by
  refine Met.ofW (cc := cX0_init) (maxL := 1) (ret := none) (by decide) rfl ?_
  intro p e s m args below meth c s₁ B hml hv
  obtain ⟨rfl, hsz, hP, hK, hD0⟩ := hv
  have hx := B.exec
  have hb := B.bytes
  have hr := B.returns
  have hts := atoms_spec (ws := Cond.code yX0_init cX0_init 1 none :: qm_G) B.pre
  have hG : ∀ w ∈ qm_G, w.before #[.ref h0] s = true := fun w hw => hts w (List.mem_cons_of_mem _ hw)
  have hown : s.vm.findClass RX0 = some m.cls := findClass_of_methodNamed B.named
  have hlocks := B.notSynchronized
  have hin : meth.name = "<init>" := (name_of_methodNamed B.named B.method).1
  subst hsz
  have hD := hD0.self (sz := s.heap.size)
  generalize hAe : va_A [(h0, .inr (0, [.null, .null, .int 0]))] s.heap.size = A at hD ⊢
  have hA : ∀ q : Nat, s.heap.size ≤ q → A q := fun q h => by rw [← hAe]; exact Or.inr h
  have hS : va_S A s.heap s.heap [] := va_S.rf
  have hP : va_P D vwCl [(h0, .inr (0, [.null, .null, .int 0]))] s.heap := hP
  have hl := lv_entry ([.ref h0]) (n := 1) (Nat.le_of_ble_eq_true rfl)
  rw [lg_entry_eq]
  generalize (lg_sl ([.ref h0]) ++ List.replicate (1 - (lg_sl ([.ref h0])).length) Slot.unset).toArray = ls at hl ⊢
  have hl : lv_has ls 1 [(0, .ref h0)] := hl
  refine lv_aload_n hx hb dX0_init_0 rfl (lv_at hl 0 rfl) ?_
  refine W.objInit hx hb hown (hG _ qn_w439) (hG _ qn_w97) (hG _ qn_w98) rfl (by rw [hml]; exact hl.1) rfl dX0_init_1 (Nat.le_of_ble_eq_true rfl) (Nat.le_of_ble_eq_true rfl) ?_
  refine W.eq (g2 := F0 m 4 ls []) rfl ?_
  refine lv_aload_n hx hb dX0_init_4 rfl (lv_at hl 0 rfl) ?_
  refine lv_sipush hx hb dX0_init_5 rfl ?_
  refine qn_newa hx hb (hG _ qn_w152) hK hP hD hS hA (N := 128) (by decide) rfl (by decide) (Nat.le_of_ble_eq_true rfl) (Nat.le_of_ble_eq_true rfl) dX0_init_8 (fun q8 H hP hD hS => ?_)
  have hP : va_P D vwCl [(h0, .inr (0, [.null, .null, .int 0])), (q8, .inl (cA, 128, .inl (fun _ => 0)))] H := hP
  have hD : va_D A [(h0, .inr (0, [.null, .null, .int 0])), (q8, .inl (cA, 128, .inl (fun _ => 0)))] := hD
  refine va_putF (D := D) (ci := 0) (v := .ref q8) (ty := .array .int) (C := RX0) (T := TX0) (N := 3) (Ts := qm_G) hx hb hG qm_cs0 tyX0 tyX0_ok nmX0 hown hK hP hD hS 0 rfl rfl 0 (by decide) (hG _ qn_w440) (fun _ h9 => h9) rfl hin rfl (by decide +kernel) rfl rfl (Nat.le_of_ble_eq_true rfl) dX0_init_10 (fun H locs hP hD hS => ?_)
  have hP : va_P D vwCl [(h0, .inr (0, [.ref q8, .null, .int 0])), (q8, .inl (cA, 128, .inl (fun _ => 0)))] H := hP
  have hD : va_D A [(h0, .inr (0, [.ref q8, .null, .int 0])), (q8, .inl (cA, 128, .inl (fun _ => 0)))] := hD
  refine lv_aload_n hx hb dX0_init_13 rfl (lv_at hl 0 rfl) ?_
  refine lv_sipush hx hb dX0_init_14 rfl ?_
  refine qn_newa hx hb (hG _ qn_w152) hK hP hD hS hA (N := 128) (by decide) rfl (by decide) (Nat.le_of_ble_eq_true rfl) (Nat.le_of_ble_eq_true rfl) dX0_init_17 (fun q17 H hP hD hS => ?_)
  have hP : va_P D vwCl [(h0, .inr (0, [.ref q8, .null, .int 0])), (q8, .inl (cA, 128, .inl (fun _ => 0))), (q17, .inl (cA, 128, .inl (fun _ => 0)))] H := hP
  have hD : va_D A [(h0, .inr (0, [.ref q8, .null, .int 0])), (q8, .inl (cA, 128, .inl (fun _ => 0))), (q17, .inl (cA, 128, .inl (fun _ => 0)))] := hD
  refine va_putF (D := D) (ci := 0) (v := .ref q17) (ty := .array .int) (C := RX0) (T := TX0) (N := 3) (Ts := qm_G) hx hb hG qm_cs0 tyX0 tyX0_ok nmX0 hown hK hP hD hS 0 rfl rfl 1 (by decide) (hG _ qn_w441) (fun _ h9 => h9) rfl hin rfl (by decide +kernel) rfl rfl (Nat.le_of_ble_eq_true rfl) dX0_init_19 (fun H locs hP hD hS => ?_)
  have hP : va_P D vwCl [(h0, .inr (0, [.ref q8, .ref q17, .int 0])), (q8, .inl (cA, 128, .inl (fun _ => 0))), (q17, .inl (cA, 128, .inl (fun _ => 0)))] H := hP
  have hD : va_D A [(h0, .inr (0, [.ref q8, .ref q17, .int 0])), (q8, .inl (cA, 128, .inl (fun _ => 0))), (q17, .inl (cA, 128, .inl (fun _ => 0)))] := hD
  exact W.vret hx hb hr (fun t ht hW => ⟨⟨(fun i => match i with | 0 => q8 | _ => q17), rfl, trivial, by rw [ht]; exact hP, va_K.moved hW.alike hK, hD⟩, hS.F ht⟩) hS.2.2 dX0_init_22

set_option maxHeartbeats 4000000 in
set_option maxRecDepth 100000 in
theorem n_X2_init (l : Launch) (D : va_G) (cA cR : ClassId) (h0 sz : Nat) : Met l yX2_init (Cond.code yX2_init cX2_init 1 none :: qm_G) ({ frames := 1, cells := 1, slots := 7, locals := 12 }) (va_Pc [.ref h0] (fun U => U.heap.size = sz ∧ va_P D vwCl [(h0, .inr (1, [.null, .int 0]))] U.heap ∧ va_K D vwCl (qm_ty cA cR) U ∧ va_D (fun _ => True) [(h0, .inr (1, [.null, .int 0]))])) (va_Qv (fun _ : Nat → Nat => True) (fun a U => va_P D vwCl [(h0, .inr (1, [.ref (a 0), .int 0])), (a 0, .inl (cA, 7, .inl (fun _ => 0)))] U.heap ∧ va_K D vwCl (qm_ty cA cR) U ∧ va_D (va_A [(h0, .inr (1, [.null, .int 0]))] sz) [(h0, .inr (1, [.ref (a 0), .int 0])), (a 0, .inl (cA, 7, .inl (fun _ => 0)))]) (va_A [(h0, .inr (1, [.null, .int 0]))] sz)) 1 7 (va_A [(h0, .inr (1, [.null, .int 0]))] sz) := by
  refine Met.ofW (cc := cX2_init) (maxL := 1) (ret := none) (by decide) rfl ?_
  intro p e s m args below meth c s₁ B hml hv
  obtain ⟨rfl, hsz, hP, hK, hD0⟩ := hv
  have hx := B.exec
  have hb := B.bytes
  have hr := B.returns
  have hts := atoms_spec (ws := Cond.code yX2_init cX2_init 1 none :: qm_G) B.pre
  have hG : ∀ w ∈ qm_G, w.before #[.ref h0] s = true := fun w hw => hts w (List.mem_cons_of_mem _ hw)
  have hown : s.vm.findClass RX2 = some m.cls := findClass_of_methodNamed B.named
  have hlocks := B.notSynchronized
  have hin : meth.name = "<init>" := (name_of_methodNamed B.named B.method).1
  subst hsz
  have hD := hD0.self (sz := s.heap.size)
  generalize hAe : va_A [(h0, .inr (1, [.null, .int 0]))] s.heap.size = A at hD ⊢
  have hA : ∀ q : Nat, s.heap.size ≤ q → A q := fun q h => by rw [← hAe]; exact Or.inr h
  have hS : va_S A s.heap s.heap [] := va_S.rf
  have hP : va_P D vwCl [(h0, .inr (1, [.null, .int 0]))] s.heap := hP
  have hl := lv_entry ([.ref h0]) (n := 1) (Nat.le_of_ble_eq_true rfl)
  rw [lg_entry_eq]
  generalize (lg_sl ([.ref h0]) ++ List.replicate (1 - (lg_sl ([.ref h0])).length) Slot.unset).toArray = ls at hl ⊢
  have hl : lv_has ls 1 [(0, .ref h0)] := hl
  refine lv_aload_n hx hb dX2_init_0 rfl (lv_at hl 0 rfl) ?_
  refine W.objInit hx hb hown (hG _ qn_w404) (hG _ qn_w97) (hG _ qn_w98) rfl (by rw [hml]; exact hl.1) rfl dX2_init_1 (Nat.le_of_ble_eq_true rfl) (Nat.le_of_ble_eq_true rfl) ?_
  refine W.eq (g2 := F0 m 4 ls []) rfl ?_
  refine lv_aload_n hx hb dX2_init_4 rfl (lv_at hl 0 rfl) ?_
  refine lv_bipush hx hb dX2_init_5 rfl ?_
  refine qn_newa hx hb (hG _ qn_w152) hK hP hD hS hA (N := 7) (by decide) rfl (by decide) (Nat.le_of_ble_eq_true rfl) (Nat.le_of_ble_eq_true rfl) dX2_init_7 (fun q7 H hP hD hS => ?_)
  have hP : va_P D vwCl [(h0, .inr (1, [.null, .int 0])), (q7, .inl (cA, 7, .inl (fun _ => 0)))] H := hP
  have hD : va_D A [(h0, .inr (1, [.null, .int 0])), (q7, .inl (cA, 7, .inl (fun _ => 0)))] := hD
  refine va_putF (D := D) (ci := 1) (v := .ref q7) (ty := .array .int) (C := RX2) (T := TX2) (N := 2) (Ts := qm_G) hx hb hG qm_cs1 tyX2 tyX2_ok nmX2 hown hK hP hD hS 0 rfl rfl 0 (by decide) (hG _ qn_w405) (fun _ h9 => h9) rfl hin rfl (by decide +kernel) rfl rfl (Nat.le_of_ble_eq_true rfl) dX2_init_9 (fun H locs hP hD hS => ?_)
  have hP : va_P D vwCl [(h0, .inr (1, [.ref q7, .int 0])), (q7, .inl (cA, 7, .inl (fun _ => 0)))] H := hP
  have hD : va_D A [(h0, .inr (1, [.ref q7, .int 0])), (q7, .inl (cA, 7, .inl (fun _ => 0)))] := hD
  exact W.vret hx hb hr (fun t ht hW => ⟨⟨(fun i => match i with  | _ => q7), rfl, trivial, by rw [ht]; exact hP, va_K.moved hW.alike hK, hD⟩, hS.F ht⟩) hS.2.2 dX2_init_12

set_option maxHeartbeats 4000000 in
set_option maxRecDepth 100000 in
theorem n_X3_init (l : Launch) (D : va_G) (cA cR : ClassId) (h0 sz : Nat) : Met l yX3_init (Cond.code yX3_init cX3_init 1 none :: qm_G) ({ frames := 1, cells := 3, slots := 324, locals := 12 }) (va_Pc [.ref h0] (fun U => U.heap.size = sz ∧ va_P D vwCl [(h0, .inr (2, [.null, .null, .null, .int 0, .int 0, .int 0, .int 0, .int 0, .int 0, .int 0]))] U.heap ∧ va_K D vwCl (qm_ty cA cR) U ∧ va_D (fun _ => True) [(h0, .inr (2, [.null, .null, .null, .int 0, .int 0, .int 0, .int 0, .int 0, .int 0, .int 0]))])) (va_Qv (fun _ : Nat → Nat => True) (fun a U => va_P D vwCl [(h0, .inr (2, [.ref (a 0), .ref (a 1), .ref (a 2), .int 0, .int 0, .int 0, .int 0, .int 0, .int 0, .int 0])), (a 0, .inl (cA, 160, .inl (fun _ => 0))), (a 1, .inl (cA, 4, .inl (fun _ => 0))), (a 2, .inl (cA, 160, .inl (fun _ => 0)))] U.heap ∧ va_K D vwCl (qm_ty cA cR) U ∧ va_D (va_A [(h0, .inr (2, [.null, .null, .null, .int 0, .int 0, .int 0, .int 0, .int 0, .int 0, .int 0]))] sz) [(h0, .inr (2, [.ref (a 0), .ref (a 1), .ref (a 2), .int 0, .int 0, .int 0, .int 0, .int 0, .int 0, .int 0])), (a 0, .inl (cA, 160, .inl (fun _ => 0))), (a 1, .inl (cA, 4, .inl (fun _ => 0))), (a 2, .inl (cA, 160, .inl (fun _ => 0)))]) (va_A [(h0, .inr (2, [.null, .null, .null, .int 0, .int 0, .int 0, .int 0, .int 0, .int 0, .int 0]))] sz)) 3 324 (va_A [(h0, .inr (2, [.null, .null, .null, .int 0, .int 0, .int 0, .int 0, .int 0, .int 0, .int 0]))] sz) := by
  refine Met.ofW (cc := cX3_init) (maxL := 1) (ret := none) (by decide) rfl ?_
  intro p e s m args below meth c s₁ B hml hv
  obtain ⟨rfl, hsz, hP, hK, hD0⟩ := hv
  have hx := B.exec
  have hb := B.bytes
  have hr := B.returns
  have hts := atoms_spec (ws := Cond.code yX3_init cX3_init 1 none :: qm_G) B.pre
  have hG : ∀ w ∈ qm_G, w.before #[.ref h0] s = true := fun w hw => hts w (List.mem_cons_of_mem _ hw)
  have hown : s.vm.findClass RX3 = some m.cls := findClass_of_methodNamed B.named
  have hlocks := B.notSynchronized
  have hin : meth.name = "<init>" := (name_of_methodNamed B.named B.method).1
  subst hsz
  have hD := hD0.self (sz := s.heap.size)
  generalize hAe : va_A [(h0, .inr (2, [.null, .null, .null, .int 0, .int 0, .int 0, .int 0, .int 0, .int 0, .int 0]))] s.heap.size = A at hD ⊢
  have hA : ∀ q : Nat, s.heap.size ≤ q → A q := fun q h => by rw [← hAe]; exact Or.inr h
  have hS : va_S A s.heap s.heap [] := va_S.rf
  have hP : va_P D vwCl [(h0, .inr (2, [.null, .null, .null, .int 0, .int 0, .int 0, .int 0, .int 0, .int 0, .int 0]))] s.heap := hP
  have hl := lv_entry ([.ref h0]) (n := 1) (Nat.le_of_ble_eq_true rfl)
  rw [lg_entry_eq]
  generalize (lg_sl ([.ref h0]) ++ List.replicate (1 - (lg_sl ([.ref h0])).length) Slot.unset).toArray = ls at hl ⊢
  have hl : lv_has ls 1 [(0, .ref h0)] := hl
  refine lv_aload_n hx hb dX3_init_0 rfl (lv_at hl 0 rfl) ?_
  refine W.objInit hx hb hown (hG _ qn_w164) (hG _ qn_w97) (hG _ qn_w98) rfl (by rw [hml]; exact hl.1) rfl dX3_init_1 (Nat.le_of_ble_eq_true rfl) (Nat.le_of_ble_eq_true rfl) ?_
  refine W.eq (g2 := F0 m 4 ls []) rfl ?_
  refine lv_aload_n hx hb dX3_init_4 rfl (lv_at hl 0 rfl) ?_
  refine lv_sipush hx hb dX3_init_5 rfl ?_
  refine qn_newa hx hb (hG _ qn_w152) hK hP hD hS hA (N := 160) (by decide) rfl (by decide) (Nat.le_of_ble_eq_true rfl) (Nat.le_of_ble_eq_true rfl) dX3_init_8 (fun q8 H hP hD hS => ?_)
  have hP : va_P D vwCl [(h0, .inr (2, [.null, .null, .null, .int 0, .int 0, .int 0, .int 0, .int 0, .int 0, .int 0])), (q8, .inl (cA, 160, .inl (fun _ => 0)))] H := hP
  have hD : va_D A [(h0, .inr (2, [.null, .null, .null, .int 0, .int 0, .int 0, .int 0, .int 0, .int 0, .int 0])), (q8, .inl (cA, 160, .inl (fun _ => 0)))] := hD
  refine va_putF (D := D) (ci := 2) (v := .ref q8) (ty := .array .int) (C := RX3) (T := TX3) (N := 10) (Ts := qm_G) hx hb hG qm_cs2 tyX3 tyX3_ok nmX3 hown hK hP hD hS 0 rfl rfl 0 (by decide) (hG _ qn_w165) (fun _ h9 => h9) rfl hin rfl (by decide +kernel) rfl rfl (Nat.le_of_ble_eq_true rfl) dX3_init_10 (fun H locs hP hD hS => ?_)
  have hP : va_P D vwCl [(h0, .inr (2, [.ref q8, .null, .null, .int 0, .int 0, .int 0, .int 0, .int 0, .int 0, .int 0])), (q8, .inl (cA, 160, .inl (fun _ => 0)))] H := hP
  have hD : va_D A [(h0, .inr (2, [.ref q8, .null, .null, .int 0, .int 0, .int 0, .int 0, .int 0, .int 0, .int 0])), (q8, .inl (cA, 160, .inl (fun _ => 0)))] := hD
  refine lv_aload_n hx hb dX3_init_13 rfl (lv_at hl 0 rfl) ?_
  refine lv_iconst hx hb dX3_init_14 rfl ?_
  refine qn_newa hx hb (hG _ qn_w152) hK hP hD hS hA (N := 4) (by decide) rfl (by decide) (Nat.le_of_ble_eq_true rfl) (Nat.le_of_ble_eq_true rfl) dX3_init_15 (fun q15 H hP hD hS => ?_)
  have hP : va_P D vwCl [(h0, .inr (2, [.ref q8, .null, .null, .int 0, .int 0, .int 0, .int 0, .int 0, .int 0, .int 0])), (q8, .inl (cA, 160, .inl (fun _ => 0))), (q15, .inl (cA, 4, .inl (fun _ => 0)))] H := hP
  have hD : va_D A [(h0, .inr (2, [.ref q8, .null, .null, .int 0, .int 0, .int 0, .int 0, .int 0, .int 0, .int 0])), (q8, .inl (cA, 160, .inl (fun _ => 0))), (q15, .inl (cA, 4, .inl (fun _ => 0)))] := hD
  refine va_putF (D := D) (ci := 2) (v := .ref q15) (ty := .array .int) (C := RX3) (T := TX3) (N := 10) (Ts := qm_G) hx hb hG qm_cs2 tyX3 tyX3_ok nmX3 hown hK hP hD hS 0 rfl rfl 1 (by decide) (hG _ qn_w167) (fun _ h9 => h9) rfl hin rfl (by decide +kernel) rfl rfl (Nat.le_of_ble_eq_true rfl) dX3_init_17 (fun H locs hP hD hS => ?_)
  have hP : va_P D vwCl [(h0, .inr (2, [.ref q8, .ref q15, .null, .int 0, .int 0, .int 0, .int 0, .int 0, .int 0, .int 0])), (q8, .inl (cA, 160, .inl (fun _ => 0))), (q15, .inl (cA, 4, .inl (fun _ => 0)))] H := hP
  have hD : va_D A [(h0, .inr (2, [.ref q8, .ref q15, .null, .int 0, .int 0, .int 0, .int 0, .int 0, .int 0, .int 0])), (q8, .inl (cA, 160, .inl (fun _ => 0))), (q15, .inl (cA, 4, .inl (fun _ => 0)))] := hD
  refine lv_aload_n hx hb dX3_init_20 rfl (lv_at hl 0 rfl) ?_
  refine lv_sipush hx hb dX3_init_21 rfl ?_
  refine qn_newa hx hb (hG _ qn_w152) hK hP hD hS hA (N := 160) (by decide) rfl (by decide) (Nat.le_of_ble_eq_true rfl) (Nat.le_of_ble_eq_true rfl) dX3_init_24 (fun q24 H hP hD hS => ?_)
  have hP : va_P D vwCl [(h0, .inr (2, [.ref q8, .ref q15, .null, .int 0, .int 0, .int 0, .int 0, .int 0, .int 0, .int 0])), (q8, .inl (cA, 160, .inl (fun _ => 0))), (q15, .inl (cA, 4, .inl (fun _ => 0))), (q24, .inl (cA, 160, .inl (fun _ => 0)))] H := hP
  have hD : va_D A [(h0, .inr (2, [.ref q8, .ref q15, .null, .int 0, .int 0, .int 0, .int 0, .int 0, .int 0, .int 0])), (q8, .inl (cA, 160, .inl (fun _ => 0))), (q15, .inl (cA, 4, .inl (fun _ => 0))), (q24, .inl (cA, 160, .inl (fun _ => 0)))] := hD
  refine va_putF (D := D) (ci := 2) (v := .ref q24) (ty := .array .int) (C := RX3) (T := TX3) (N := 10) (Ts := qm_G) hx hb hG qm_cs2 tyX3 tyX3_ok nmX3 hown hK hP hD hS 0 rfl rfl 2 (by decide) (hG _ qn_w169) (fun _ h9 => h9) rfl hin rfl (by decide +kernel) rfl rfl (Nat.le_of_ble_eq_true rfl) dX3_init_26 (fun H locs hP hD hS => ?_)
  have hP : va_P D vwCl [(h0, .inr (2, [.ref q8, .ref q15, .ref q24, .int 0, .int 0, .int 0, .int 0, .int 0, .int 0, .int 0])), (q8, .inl (cA, 160, .inl (fun _ => 0))), (q15, .inl (cA, 4, .inl (fun _ => 0))), (q24, .inl (cA, 160, .inl (fun _ => 0)))] H := hP
  have hD : va_D A [(h0, .inr (2, [.ref q8, .ref q15, .ref q24, .int 0, .int 0, .int 0, .int 0, .int 0, .int 0, .int 0])), (q8, .inl (cA, 160, .inl (fun _ => 0))), (q15, .inl (cA, 4, .inl (fun _ => 0))), (q24, .inl (cA, 160, .inl (fun _ => 0)))] := hD
  exact W.vret hx hb hr (fun t ht hW => ⟨⟨(fun i => match i with | 0 => q8 | 1 => q15 | _ => q24), rfl, trivial, by rw [ht]; exact hP, va_K.moved hW.alike hK, hD⟩, hS.F ht⟩) hS.2.2 dX3_init_29

set_option maxHeartbeats 4000000 in
set_option maxRecDepth 100000 in
theorem n_X4_init (l : Launch) (D : va_G) (cA cR : ClassId) (h0 sz : Nat) : Met l yX4_init (Cond.code yX4_init cX4_init 1 none :: qm_G) ({ frames := 1, cells := 0, slots := 0, locals := 12 }) (va_Pc [.ref h0] (fun U => U.heap.size = sz ∧ va_P D vwCl [(h0, .inr (3, [.int 0, .int 0, .int 0]))] U.heap ∧ va_K D vwCl (qm_ty cA cR) U ∧ va_D (fun _ => True) [(h0, .inr (3, [.int 0, .int 0, .int 0]))])) (va_Qv (fun _ : Nat → Nat => True) (fun a U => va_P D vwCl [(h0, .inr (3, [.int 0, .int 0, .int 0]))] U.heap ∧ va_K D vwCl (qm_ty cA cR) U ∧ va_D (va_A [(h0, .inr (3, [.int 0, .int 0, .int 0]))] sz) [(h0, .inr (3, [.int 0, .int 0, .int 0]))]) (va_A [(h0, .inr (3, [.int 0, .int 0, .int 0]))] sz)) 0 0 (va_A [(h0, .inr (3, [.int 0, .int 0, .int 0]))] sz) := by
  refine Met.ofW (cc := cX4_init) (maxL := 1) (ret := none) (by decide) rfl ?_
  intro p e s m args below meth c s₁ B hml hv
  obtain ⟨rfl, hsz, hP, hK, hD0⟩ := hv
  have hx := B.exec
  have hb := B.bytes
  have hr := B.returns
  have hts := atoms_spec (ws := Cond.code yX4_init cX4_init 1 none :: qm_G) B.pre
  have hG : ∀ w ∈ qm_G, w.before #[.ref h0] s = true := fun w hw => hts w (List.mem_cons_of_mem _ hw)
  have hown : s.vm.findClass RX4 = some m.cls := findClass_of_methodNamed B.named
  have hlocks := B.notSynchronized
  have hin : meth.name = "<init>" := (name_of_methodNamed B.named B.method).1
  subst hsz
  have hD := hD0.self (sz := s.heap.size)
  generalize hAe : va_A [(h0, .inr (3, [.int 0, .int 0, .int 0]))] s.heap.size = A at hD ⊢
  have hA : ∀ q : Nat, s.heap.size ≤ q → A q := fun q h => by rw [← hAe]; exact Or.inr h
  have hS : va_S A s.heap s.heap [] := va_S.rf
  have hP : va_P D vwCl [(h0, .inr (3, [.int 0, .int 0, .int 0]))] s.heap := hP
  have hl := lv_entry ([.ref h0]) (n := 1) (Nat.le_of_ble_eq_true rfl)
  rw [lg_entry_eq]
  generalize (lg_sl ([.ref h0]) ++ List.replicate (1 - (lg_sl ([.ref h0])).length) Slot.unset).toArray = ls at hl ⊢
  have hl : lv_has ls 1 [(0, .ref h0)] := hl
  refine lv_aload_n hx hb dX4_init_0 rfl (lv_at hl 0 rfl) ?_
  refine W.objInit hx hb hown (hG _ qn_w421) (hG _ qn_w97) (hG _ qn_w98) rfl (by rw [hml]; exact hl.1) rfl dX4_init_1 (Nat.le_of_ble_eq_true rfl) (Nat.le_of_ble_eq_true rfl) ?_
  refine W.eq (g2 := F0 m 4 ls []) rfl ?_
  exact W.vret hx hb hr (fun t ht hW => ⟨⟨(fun i => i), rfl, trivial, by rw [ht]; exact hP, va_K.moved hW.alike hK, hD⟩, hS.F ht⟩) hS.2.2 dX4_init_4

set_option maxHeartbeats 4000000 in
set_option maxRecDepth 100000 in
theorem n_X7_init (l : Launch) (D : va_G) (cA cR : ClassId) (h0 sz : Nat) : Met l yX7_init (Cond.code yX7_init cX7_init 1 none :: qm_G) ({ frames := 1, cells := 5, slots := 35, locals := 12 }) (va_Pc [.ref h0] (fun U => U.heap.size = sz ∧ va_P D vwCl [(h0, .inr (6, [.int 0, .int 0, .int 0, .int 0, .null, .null, .null, .null, .null]))] U.heap ∧ va_K D vwCl (qm_ty cA cR) U ∧ va_D (fun _ => True) [(h0, .inr (6, [.int 0, .int 0, .int 0, .int 0, .null, .null, .null, .null, .null]))])) (va_Qv (fun _ : Nat → Nat => True) (fun a U => va_P D vwCl [(h0, .inr (6, [.int 0, .int 0, .int 0, .int 0, .ref (a 0), .ref (a 1), .ref (a 2), .ref (a 3), .ref (a 4)])), (a 0, .inl (cA, 7, .inl (fun _ => 0))), (a 1, .inl (cA, 7, .inl (fun _ => 0))), (a 2, .inl (cA, 7, .inl (fun _ => 0))), (a 3, .inl (cA, 7, .inl (fun _ => 0))), (a 4, .inl (cA, 7, .inl (fun _ => 0)))] U.heap ∧ va_K D vwCl (qm_ty cA cR) U ∧ va_D (va_A [(h0, .inr (6, [.int 0, .int 0, .int 0, .int 0, .null, .null, .null, .null, .null]))] sz) [(h0, .inr (6, [.int 0, .int 0, .int 0, .int 0, .ref (a 0), .ref (a 1), .ref (a 2), .ref (a 3), .ref (a 4)])), (a 0, .inl (cA, 7, .inl (fun _ => 0))), (a 1, .inl (cA, 7, .inl (fun _ => 0))), (a 2, .inl (cA, 7, .inl (fun _ => 0))), (a 3, .inl (cA, 7, .inl (fun _ => 0))), (a 4, .inl (cA, 7, .inl (fun _ => 0)))]) (va_A [(h0, .inr (6, [.int 0, .int 0, .int 0, .int 0, .null, .null, .null, .null, .null]))] sz)) 5 35 (va_A [(h0, .inr (6, [.int 0, .int 0, .int 0, .int 0, .null, .null, .null, .null, .null]))] sz) := by
  refine Met.ofW (cc := cX7_init) (maxL := 1) (ret := none) (by decide) rfl ?_
  intro p e s m args below meth c s₁ B hml hv
  obtain ⟨rfl, hsz, hP, hK, hD0⟩ := hv
  have hx := B.exec
  have hb := B.bytes
  have hr := B.returns
  have hts := atoms_spec (ws := Cond.code yX7_init cX7_init 1 none :: qm_G) B.pre
  have hG : ∀ w ∈ qm_G, w.before #[.ref h0] s = true := fun w hw => hts w (List.mem_cons_of_mem _ hw)
  have hown : s.vm.findClass RX7 = some m.cls := findClass_of_methodNamed B.named
  have hlocks := B.notSynchronized
  have hin : meth.name = "<init>" := (name_of_methodNamed B.named B.method).1
  subst hsz
  have hD := hD0.self (sz := s.heap.size)
  generalize hAe : va_A [(h0, .inr (6, [.int 0, .int 0, .int 0, .int 0, .null, .null, .null, .null, .null]))] s.heap.size = A at hD ⊢
  have hA : ∀ q : Nat, s.heap.size ≤ q → A q := fun q h => by rw [← hAe]; exact Or.inr h
  have hS : va_S A s.heap s.heap [] := va_S.rf
  have hP : va_P D vwCl [(h0, .inr (6, [.int 0, .int 0, .int 0, .int 0, .null, .null, .null, .null, .null]))] s.heap := hP
  have hl := lv_entry ([.ref h0]) (n := 1) (Nat.le_of_ble_eq_true rfl)
  rw [lg_entry_eq]
  generalize (lg_sl ([.ref h0]) ++ List.replicate (1 - (lg_sl ([.ref h0])).length) Slot.unset).toArray = ls at hl ⊢
  have hl : lv_has ls 1 [(0, .ref h0)] := hl
  refine lv_aload_n hx hb dX7_init_0 rfl (lv_at hl 0 rfl) ?_
  refine W.objInit hx hb hown (hG _ qn_w104) (hG _ qn_w97) (hG _ qn_w98) rfl (by rw [hml]; exact hl.1) rfl dX7_init_1 (Nat.le_of_ble_eq_true rfl) (Nat.le_of_ble_eq_true rfl) ?_
  refine W.eq (g2 := F0 m 4 ls []) rfl ?_
  refine lv_aload_n hx hb dX7_init_4 rfl (lv_at hl 0 rfl) ?_
  refine lv_bipush hx hb dX7_init_5 rfl ?_
  refine qn_newa hx hb (hG _ qn_w152) hK hP hD hS hA (N := 7) (by decide) rfl (by decide) (Nat.le_of_ble_eq_true rfl) (Nat.le_of_ble_eq_true rfl) dX7_init_7 (fun q7 H hP hD hS => ?_)
  have hP : va_P D vwCl [(h0, .inr (6, [.int 0, .int 0, .int 0, .int 0, .null, .null, .null, .null, .null])), (q7, .inl (cA, 7, .inl (fun _ => 0)))] H := hP
  have hD : va_D A [(h0, .inr (6, [.int 0, .int 0, .int 0, .int 0, .null, .null, .null, .null, .null])), (q7, .inl (cA, 7, .inl (fun _ => 0)))] := hD
  refine va_putF (D := D) (ci := 6) (v := .ref q7) (ty := .array .int) (C := RX7) (T := TX7) (N := 9) (Ts := qm_G) hx hb hG qm_cs6 tyX7 tyX7_ok nmX7 hown hK hP hD hS 0 rfl rfl 4 (by decide) (hG _ qn_w117) (fun _ h9 => h9) rfl hin rfl (by decide +kernel) rfl rfl (Nat.le_of_ble_eq_true rfl) dX7_init_9 (fun H locs hP hD hS => ?_)
  have hP : va_P D vwCl [(h0, .inr (6, [.int 0, .int 0, .int 0, .int 0, .ref q7, .null, .null, .null, .null])), (q7, .inl (cA, 7, .inl (fun _ => 0)))] H := hP
  have hD : va_D A [(h0, .inr (6, [.int 0, .int 0, .int 0, .int 0, .ref q7, .null, .null, .null, .null])), (q7, .inl (cA, 7, .inl (fun _ => 0)))] := hD
  refine lv_aload_n hx hb dX7_init_12 rfl (lv_at hl 0 rfl) ?_
  refine lv_bipush hx hb dX7_init_13 rfl ?_
  refine qn_newa hx hb (hG _ qn_w152) hK hP hD hS hA (N := 7) (by decide) rfl (by decide) (Nat.le_of_ble_eq_true rfl) (Nat.le_of_ble_eq_true rfl) dX7_init_15 (fun q15 H hP hD hS => ?_)
  have hP : va_P D vwCl [(h0, .inr (6, [.int 0, .int 0, .int 0, .int 0, .ref q7, .null, .null, .null, .null])), (q7, .inl (cA, 7, .inl (fun _ => 0))), (q15, .inl (cA, 7, .inl (fun _ => 0)))] H := hP
  have hD : va_D A [(h0, .inr (6, [.int 0, .int 0, .int 0, .int 0, .ref q7, .null, .null, .null, .null])), (q7, .inl (cA, 7, .inl (fun _ => 0))), (q15, .inl (cA, 7, .inl (fun _ => 0)))] := hD
  refine va_putF (D := D) (ci := 6) (v := .ref q15) (ty := .array .int) (C := RX7) (T := TX7) (N := 9) (Ts := qm_G) hx hb hG qm_cs6 tyX7 tyX7_ok nmX7 hown hK hP hD hS 0 rfl rfl 5 (by decide) (hG _ qn_w119) (fun _ h9 => h9) rfl hin rfl (by decide +kernel) rfl rfl (Nat.le_of_ble_eq_true rfl) dX7_init_17 (fun H locs hP hD hS => ?_)
  have hP : va_P D vwCl [(h0, .inr (6, [.int 0, .int 0, .int 0, .int 0, .ref q7, .ref q15, .null, .null, .null])), (q7, .inl (cA, 7, .inl (fun _ => 0))), (q15, .inl (cA, 7, .inl (fun _ => 0)))] H := hP
  have hD : va_D A [(h0, .inr (6, [.int 0, .int 0, .int 0, .int 0, .ref q7, .ref q15, .null, .null, .null])), (q7, .inl (cA, 7, .inl (fun _ => 0))), (q15, .inl (cA, 7, .inl (fun _ => 0)))] := hD
  refine lv_aload_n hx hb dX7_init_20 rfl (lv_at hl 0 rfl) ?_
  refine lv_bipush hx hb dX7_init_21 rfl ?_
  refine qn_newa hx hb (hG _ qn_w152) hK hP hD hS hA (N := 7) (by decide) rfl (by decide) (Nat.le_of_ble_eq_true rfl) (Nat.le_of_ble_eq_true rfl) dX7_init_23 (fun q23 H hP hD hS => ?_)
  have hP : va_P D vwCl [(h0, .inr (6, [.int 0, .int 0, .int 0, .int 0, .ref q7, .ref q15, .null, .null, .null])), (q7, .inl (cA, 7, .inl (fun _ => 0))), (q15, .inl (cA, 7, .inl (fun _ => 0))), (q23, .inl (cA, 7, .inl (fun _ => 0)))] H := hP
  have hD : va_D A [(h0, .inr (6, [.int 0, .int 0, .int 0, .int 0, .ref q7, .ref q15, .null, .null, .null])), (q7, .inl (cA, 7, .inl (fun _ => 0))), (q15, .inl (cA, 7, .inl (fun _ => 0))), (q23, .inl (cA, 7, .inl (fun _ => 0)))] := hD
  refine va_putF (D := D) (ci := 6) (v := .ref q23) (ty := .array .int) (C := RX7) (T := TX7) (N := 9) (Ts := qm_G) hx hb hG qm_cs6 tyX7 tyX7_ok nmX7 hown hK hP hD hS 0 rfl rfl 6 (by decide) (hG _ qn_w122) (fun _ h9 => h9) rfl hin rfl (by decide +kernel) rfl rfl (Nat.le_of_ble_eq_true rfl) dX7_init_25 (fun H locs hP hD hS => ?_)
  have hP : va_P D vwCl [(h0, .inr (6, [.int 0, .int 0, .int 0, .int 0, .ref q7, .ref q15, .ref q23, .null, .null])), (q7, .inl (cA, 7, .inl (fun _ => 0))), (q15, .inl (cA, 7, .inl (fun _ => 0))), (q23, .inl (cA, 7, .inl (fun _ => 0)))] H := hP
  have hD : va_D A [(h0, .inr (6, [.int 0, .int 0, .int 0, .int 0, .ref q7, .ref q15, .ref q23, .null, .null])), (q7, .inl (cA, 7, .inl (fun _ => 0))), (q15, .inl (cA, 7, .inl (fun _ => 0))), (q23, .inl (cA, 7, .inl (fun _ => 0)))] := hD
  refine lv_aload_n hx hb dX7_init_28 rfl (lv_at hl 0 rfl) ?_
  refine lv_bipush hx hb dX7_init_29 rfl ?_
  refine qn_newa hx hb (hG _ qn_w152) hK hP hD hS hA (N := 7) (by decide) rfl (by decide) (Nat.le_of_ble_eq_true rfl) (Nat.le_of_ble_eq_true rfl) dX7_init_31 (fun q31 H hP hD hS => ?_)
  have hP : va_P D vwCl [(h0, .inr (6, [.int 0, .int 0, .int 0, .int 0, .ref q7, .ref q15, .ref q23, .null, .null])), (q7, .inl (cA, 7, .inl (fun _ => 0))), (q15, .inl (cA, 7, .inl (fun _ => 0))), (q23, .inl (cA, 7, .inl (fun _ => 0))), (q31, .inl (cA, 7, .inl (fun _ => 0)))] H := hP
  have hD : va_D A [(h0, .inr (6, [.int 0, .int 0, .int 0, .int 0, .ref q7, .ref q15, .ref q23, .null, .null])), (q7, .inl (cA, 7, .inl (fun _ => 0))), (q15, .inl (cA, 7, .inl (fun _ => 0))), (q23, .inl (cA, 7, .inl (fun _ => 0))), (q31, .inl (cA, 7, .inl (fun _ => 0)))] := hD
  refine va_putF (D := D) (ci := 6) (v := .ref q31) (ty := .array .int) (C := RX7) (T := TX7) (N := 9) (Ts := qm_G) hx hb hG qm_cs6 tyX7 tyX7_ok nmX7 hown hK hP hD hS 0 rfl rfl 7 (by decide) (hG _ qn_w127) (fun _ h9 => h9) rfl hin rfl (by decide +kernel) rfl rfl (Nat.le_of_ble_eq_true rfl) dX7_init_33 (fun H locs hP hD hS => ?_)
  have hP : va_P D vwCl [(h0, .inr (6, [.int 0, .int 0, .int 0, .int 0, .ref q7, .ref q15, .ref q23, .ref q31, .null])), (q7, .inl (cA, 7, .inl (fun _ => 0))), (q15, .inl (cA, 7, .inl (fun _ => 0))), (q23, .inl (cA, 7, .inl (fun _ => 0))), (q31, .inl (cA, 7, .inl (fun _ => 0)))] H := hP
  have hD : va_D A [(h0, .inr (6, [.int 0, .int 0, .int 0, .int 0, .ref q7, .ref q15, .ref q23, .ref q31, .null])), (q7, .inl (cA, 7, .inl (fun _ => 0))), (q15, .inl (cA, 7, .inl (fun _ => 0))), (q23, .inl (cA, 7, .inl (fun _ => 0))), (q31, .inl (cA, 7, .inl (fun _ => 0)))] := hD
  refine lv_aload_n hx hb dX7_init_36 rfl (lv_at hl 0 rfl) ?_
  refine lv_bipush hx hb dX7_init_37 rfl ?_
  refine qn_newa hx hb (hG _ qn_w152) hK hP hD hS hA (N := 7) (by decide) rfl (by decide) (Nat.le_of_ble_eq_true rfl) (Nat.le_of_ble_eq_true rfl) dX7_init_39 (fun q39 H hP hD hS => ?_)
  have hP : va_P D vwCl [(h0, .inr (6, [.int 0, .int 0, .int 0, .int 0, .ref q7, .ref q15, .ref q23, .ref q31, .null])), (q7, .inl (cA, 7, .inl (fun _ => 0))), (q15, .inl (cA, 7, .inl (fun _ => 0))), (q23, .inl (cA, 7, .inl (fun _ => 0))), (q31, .inl (cA, 7, .inl (fun _ => 0))), (q39, .inl (cA, 7, .inl (fun _ => 0)))] H := hP
  have hD : va_D A [(h0, .inr (6, [.int 0, .int 0, .int 0, .int 0, .ref q7, .ref q15, .ref q23, .ref q31, .null])), (q7, .inl (cA, 7, .inl (fun _ => 0))), (q15, .inl (cA, 7, .inl (fun _ => 0))), (q23, .inl (cA, 7, .inl (fun _ => 0))), (q31, .inl (cA, 7, .inl (fun _ => 0))), (q39, .inl (cA, 7, .inl (fun _ => 0)))] := hD
  refine va_putF (D := D) (ci := 6) (v := .ref q39) (ty := .array .int) (C := RX7) (T := TX7) (N := 9) (Ts := qm_G) hx hb hG qm_cs6 tyX7 tyX7_ok nmX7 hown hK hP hD hS 0 rfl rfl 8 (by decide) (hG _ qn_w130) (fun _ h9 => h9) rfl hin rfl (by decide +kernel) rfl rfl (Nat.le_of_ble_eq_true rfl) dX7_init_41 (fun H locs hP hD hS => ?_)
  have hP : va_P D vwCl [(h0, .inr (6, [.int 0, .int 0, .int 0, .int 0, .ref q7, .ref q15, .ref q23, .ref q31, .ref q39])), (q7, .inl (cA, 7, .inl (fun _ => 0))), (q15, .inl (cA, 7, .inl (fun _ => 0))), (q23, .inl (cA, 7, .inl (fun _ => 0))), (q31, .inl (cA, 7, .inl (fun _ => 0))), (q39, .inl (cA, 7, .inl (fun _ => 0)))] H := hP
  have hD : va_D A [(h0, .inr (6, [.int 0, .int 0, .int 0, .int 0, .ref q7, .ref q15, .ref q23, .ref q31, .ref q39])), (q7, .inl (cA, 7, .inl (fun _ => 0))), (q15, .inl (cA, 7, .inl (fun _ => 0))), (q23, .inl (cA, 7, .inl (fun _ => 0))), (q31, .inl (cA, 7, .inl (fun _ => 0))), (q39, .inl (cA, 7, .inl (fun _ => 0)))] := hD
  exact W.vret hx hb hr (fun t ht hW => ⟨⟨(fun i => match i with | 0 => q7 | 1 => q15 | 2 => q23 | 3 => q31 | _ => q39), rfl, trivial, by rw [ht]; exact hP, va_K.moved hW.alike hK, hD⟩, hS.F ht⟩) hS.2.2 dX7_init_44

