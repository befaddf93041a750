/-! ===== the class's constructor ===== -/
set_option maxRecDepth 100000 in
theorem qn_z74 : (Jvm.Cond.initialized "FirstColour$Town") ∈ qm_G := qm_inW (i := 74) (by decide +kernel) rfl
set_option maxRecDepth 100000 in
theorem qn_z75 : (Jvm.Cond.initialized "FirstColour$Texts") ∈ qm_G := qm_inW (i := 75) (by decide +kernel) rfl
set_option maxRecDepth 100000 in
theorem qn_z82 : (Jvm.Cond.initialized "FirstColour$Sheets") ∈ qm_G := qm_inW (i := 82) (by decide +kernel) rfl
set_option maxRecDepth 100000 in
theorem qn_z84 : (Jvm.Cond.initialized "FirstColour$Order") ∈ qm_G := qm_inW (i := 84) (by decide +kernel) rfl
set_option maxRecDepth 100000 in
theorem qn_z85 : (Jvm.Cond.initialized "FirstColour$Search") ∈ qm_G := qm_inW (i := 85) (by decide +kernel) rfl
set_option maxRecDepth 100000 in
theorem qn_z86 : (Jvm.Cond.initialized "FirstColour$Fits") ∈ qm_G := qm_inW (i := 86) (by decide +kernel) rfl
set_option maxRecDepth 100000 in
theorem qn_z96 : (Jvm.Cond.methodLink "FirstColour" (1 : Nat) ({ cls := "java/lang/Object", name := "<init>", desc := "()V" } : Jvm.MethodName)) ∈ qm_G := qm_inW (i := 96) (by decide +kernel) rfl
set_option maxRecDepth 100000 in
theorem qn_z97 : (Jvm.Cond.instanceMethod ({ cls := "java/lang/Object", name := "<init>", desc := "()V" } : Jvm.MethodName)) ∈ qm_G := qm_inW (i := 97) (by decide +kernel) rfl
set_option maxRecDepth 100000 in
theorem qn_z98 : (Jvm.Cond.code ({ cls := "java/lang/Object", name := "<init>", desc := "()V" } : Jvm.MethodName) object_method_1_code (1 : Nat) (Option.none : Option Jvm.ClassFile.FieldType)) ∈ qm_G := qm_inW (i := 98) (by decide +kernel) rfl
set_option maxRecDepth 100000 in
theorem qn_z99 : (Jvm.Cond.classLink "FirstColour" (7 : Nat) "FirstColour$Town") ∈ qm_G := qm_inW (i := 99) (by decide +kernel) rfl
set_option maxRecDepth 100000 in
theorem qn_z100 : (Jvm.Cond.instantiable "FirstColour$Town" (9 : Nat)) ∈ qm_G := qm_inW (i := 100) (by decide +kernel) rfl
set_option maxRecDepth 100000 in
theorem qn_z102 : (Jvm.Cond.instanceMethod ({ cls := "FirstColour$Town", name := "<init>", desc := "()V" } : Jvm.MethodName)) ∈ qm_G := qm_inW (i := 102) (by decide +kernel) rfl
set_option maxRecDepth 100000 in
theorem qn_z103 : (Jvm.Cond.code ({ cls := "FirstColour$Town", name := "<init>", desc := "()V" } : Jvm.MethodName) prog_9_method_1_code (1 : Nat) (Option.none : Option Jvm.ClassFile.FieldType)) ∈ qm_G := qm_inW (i := 103) (by decide +kernel) rfl
set_option maxRecDepth 100000 in
theorem qn_z153 : (Jvm.Cond.classLink "FirstColour" (26 : Nat) "FirstColour$Texts") ∈ qm_G := qm_inW (i := 153) (by decide +kernel) rfl
set_option maxRecDepth 100000 in
theorem qn_z154 : (Jvm.Cond.instantiable "FirstColour$Texts" (8 : Nat)) ∈ qm_G := qm_inW (i := 154) (by decide +kernel) rfl
set_option maxRecDepth 100000 in
theorem qn_z155 : (Jvm.Cond.methodLink "FirstColour" (28 : Nat) ({ cls := "FirstColour$Texts", name := "<init>", desc := "()V" } : Jvm.MethodName)) ∈ qm_G := qm_inW (i := 155) (by decide +kernel) rfl
set_option maxRecDepth 100000 in
theorem qn_z156 : (Jvm.Cond.instanceMethod ({ cls := "FirstColour$Texts", name := "<init>", desc := "()V" } : Jvm.MethodName)) ∈ qm_G := qm_inW (i := 156) (by decide +kernel) rfl
set_option maxRecDepth 100000 in
theorem qn_z157 : (Jvm.Cond.code ({ cls := "FirstColour$Texts", name := "<init>", desc := "()V" } : Jvm.MethodName) prog_8_method_1_code (2 : Nat) (Option.none : Option Jvm.ClassFile.FieldType)) ∈ qm_G := qm_inW (i := 157) (by decide +kernel) rfl
set_option maxRecDepth 100000 in
theorem qn_z375 : (Jvm.Cond.classLink "FirstColour" (33 : Nat) "FirstColour$Sheets") ∈ qm_G := qm_inW (i := 375) (by decide +kernel) rfl
set_option maxRecDepth 100000 in
theorem qn_z376 : (Jvm.Cond.instantiable "FirstColour$Sheets" (3 : Nat)) ∈ qm_G := qm_inW (i := 376) (by decide +kernel) rfl
set_option maxRecDepth 100000 in
theorem qn_z377 : (Jvm.Cond.methodLink "FirstColour" (35 : Nat) ({ cls := "FirstColour$Sheets", name := "<init>", desc := "()V" } : Jvm.MethodName)) ∈ qm_G := qm_inW (i := 377) (by decide +kernel) rfl
set_option maxRecDepth 100000 in
theorem qn_z378 : (Jvm.Cond.instanceMethod ({ cls := "FirstColour$Sheets", name := "<init>", desc := "()V" } : Jvm.MethodName)) ∈ qm_G := qm_inW (i := 378) (by decide +kernel) rfl
set_option maxRecDepth 100000 in
theorem qn_z379 : (Jvm.Cond.code ({ cls := "FirstColour$Sheets", name := "<init>", desc := "()V" } : Jvm.MethodName) prog_7_method_1_code (1 : Nat) (Option.none : Option Jvm.ClassFile.FieldType)) ∈ qm_G := qm_inW (i := 379) (by decide +kernel) rfl
set_option maxRecDepth 100000 in
theorem qn_z399 : (Jvm.Cond.classLink "FirstColour" (40 : Nat) "FirstColour$Order") ∈ qm_G := qm_inW (i := 399) (by decide +kernel) rfl
set_option maxRecDepth 100000 in
theorem qn_z400 : (Jvm.Cond.instantiable "FirstColour$Order" (2 : Nat)) ∈ qm_G := qm_inW (i := 400) (by decide +kernel) rfl
set_option maxRecDepth 100000 in
theorem qn_z402 : (Jvm.Cond.instanceMethod ({ cls := "FirstColour$Order", name := "<init>", desc := "()V" } : Jvm.MethodName)) ∈ qm_G := qm_inW (i := 402) (by decide +kernel) rfl
set_option maxRecDepth 100000 in
theorem qn_z403 : (Jvm.Cond.code ({ cls := "FirstColour$Order", name := "<init>", desc := "()V" } : Jvm.MethodName) prog_4_method_1_code (1 : Nat) (Option.none : Option Jvm.ClassFile.FieldType)) ∈ qm_G := qm_inW (i := 403) (by decide +kernel) rfl
set_option maxRecDepth 100000 in
theorem qn_z416 : (Jvm.Cond.classLink "FirstColour" (47 : Nat) "FirstColour$Search") ∈ qm_G := qm_inW (i := 416) (by decide +kernel) rfl
set_option maxRecDepth 100000 in
theorem qn_z417 : (Jvm.Cond.instantiable "FirstColour$Search" (3 : Nat)) ∈ qm_G := qm_inW (i := 417) (by decide +kernel) rfl
set_option maxRecDepth 100000 in
theorem qn_z419 : (Jvm.Cond.instanceMethod ({ cls := "FirstColour$Search", name := "<init>", desc := "()V" } : Jvm.MethodName)) ∈ qm_G := qm_inW (i := 419) (by decide +kernel) rfl
set_option maxRecDepth 100000 in
theorem qn_z420 : (Jvm.Cond.code ({ cls := "FirstColour$Search", name := "<init>", desc := "()V" } : Jvm.MethodName) prog_6_method_1_code (1 : Nat) (Option.none : Option Jvm.ClassFile.FieldType)) ∈ qm_G := qm_inW (i := 420) (by decide +kernel) rfl
set_option maxRecDepth 100000 in
theorem qn_z434 : (Jvm.Cond.classLink "FirstColour" (54 : Nat) "FirstColour$Fits") ∈ qm_G := qm_inW (i := 434) (by decide +kernel) rfl
set_option maxRecDepth 100000 in
theorem qn_z435 : (Jvm.Cond.instantiable "FirstColour$Fits" (3 : Nat)) ∈ qm_G := qm_inW (i := 435) (by decide +kernel) rfl
set_option maxRecDepth 100000 in
theorem qn_z437 : (Jvm.Cond.instanceMethod ({ cls := "FirstColour$Fits", name := "<init>", desc := "()V" } : Jvm.MethodName)) ∈ qm_G := qm_inW (i := 437) (by decide +kernel) rfl
set_option maxRecDepth 100000 in
theorem qn_z438 : (Jvm.Cond.code ({ cls := "FirstColour$Fits", name := "<init>", desc := "()V" } : Jvm.MethodName) prog_2_method_1_code (1 : Nat) (Option.none : Option Jvm.ClassFile.FieldType)) ∈ qm_G := qm_inW (i := 438) (by decide +kernel) rfl
set_option maxRecDepth 100000 in
theorem qn_z450 : (Jvm.Cond.fieldLink "FirstColour" (10 : Nat) "FirstColour" "town" "LFirstColour$Town;") ∈ qm_G := qm_inW (i := 450) (by decide +kernel) rfl
set_option maxRecDepth 100000 in
theorem qn_z451 : (Jvm.Cond.fieldLink "FirstColour" (16 : Nat) "FirstColour" "thought" "LFirstColour$Town;") ∈ qm_G := qm_inW (i := 451) (by decide +kernel) rfl
set_option maxRecDepth 100000 in
theorem qn_z452 : (Jvm.Cond.fieldLink "FirstColour" (19 : Nat) "FirstColour" "kept" "LFirstColour$Town;") ∈ qm_G := qm_inW (i := 452) (by decide +kernel) rfl
set_option maxRecDepth 100000 in
theorem qn_z453 : (Jvm.Cond.fieldLink "FirstColour" (22 : Nat) "FirstColour" "imageKept" "Z") ∈ qm_G := qm_inW (i := 453) (by decide +kernel) rfl
set_option maxRecDepth 100000 in
theorem qn_z454 : (Jvm.Cond.fieldLink "FirstColour" (29 : Nat) "FirstColour" "texts" "LFirstColour$Texts;") ∈ qm_G := qm_inW (i := 454) (by decide +kernel) rfl
set_option maxRecDepth 100000 in
theorem qn_z455 : (Jvm.Cond.fieldLink "FirstColour" (36 : Nat) "FirstColour" "sheets" "LFirstColour$Sheets;") ∈ qm_G := qm_inW (i := 455) (by decide +kernel) rfl
set_option maxRecDepth 100000 in
theorem qn_z456 : (Jvm.Cond.fieldLink "FirstColour" (43 : Nat) "FirstColour" "order" "LFirstColour$Order;") ∈ qm_G := qm_inW (i := 456) (by decide +kernel) rfl
set_option maxRecDepth 100000 in
theorem qn_z457 : (Jvm.Cond.fieldLink "FirstColour" (50 : Nat) "FirstColour" "search" "LFirstColour$Search;") ∈ qm_G := qm_inW (i := 457) (by decide +kernel) rfl
set_option maxRecDepth 100000 in
theorem qn_z458 : (Jvm.Cond.fieldLink "FirstColour" (57 : Nat) "FirstColour" "fits" "LFirstColour$Fits;") ∈ qm_G := qm_inW (i := 458) (by decide +kernel) rfl
set_option maxRecDepth 100000 in
theorem qm_cs7 : ∀ w ∈ u_ws RX8 TX8 9, w ∈ qm_G := qm_allG (by decide +kernel)
set_option maxHeartbeats 8000000 in
set_option maxRecDepth 100000 in
theorem n_X8_init (l : Launch) (D : va_G) (cA cR : ClassId) (β : Nat → Nat) (h0 sz : Nat) : Met l yX8_init (Cond.code yX8_init cX8_init 1 none :: qm_G) ({ frames := 59, cells := 54, slots := 2146, locals := 3800 }) (va_Pc [.ref h0] (fun U => U.heap.size = sz ∧ va_P D vwCl [(h0, .inr (7, [.null, .null, .null, .int 0, .null, .null, .null, .null, .null]))] U.heap ∧ va_K D vwCl (qm_ty cA cR) U ∧ va_D (fun _ => True) [(h0, .inr (7, [.null, .null, .null, .int 0, .null, .null, .null, .null, .null]))] ∧ qm_E β (va_A [(h0, .inr (7, [.null, .null, .null, .int 0, .null, .null, .null, .null, .null]))] sz) U U.heap ∧ qn_nx U)) (va_Qv (fun u : (Nat → Nat) × qm_St => qn_pC β h0 u) (fun (u : (Nat → Nat) × qm_St) U => va_P D vwCl (qm_W u.1 cA cR qn_layC u.2) U.heap ∧ va_K D vwCl (qm_ty cA cR) U ∧ va_D (va_A [(h0, .inr (7, [.null, .null, .null, .int 0, .null, .null, .null, .null, .null]))] sz) (qm_W u.1 cA cR qn_layC u.2)) (va_A [(h0, .inr (7, [.null, .null, .null, .int 0, .null, .null, .null, .null, .null]))] sz)) 54 2146 (va_A [(h0, .inr (7, [.null, .null, .null, .int 0, .null, .null, .null, .null, .null]))] sz) := by
  refine Met.ofW (cc := cX8_init) (maxL := 1) (ret := none) (by decide) rfl ?_
  intro p e s m args below meth c s₁ B hml hv
  obtain ⟨rfl, hsz, hP, hK, hD0, hE, hnx⟩ := hv
  have hx := B.exec
  have hb := B.bytes
  have hr := B.returns
  have hts := atoms_spec (ws := Cond.code yX8_init cX8_init 1 none :: qm_G) B.pre
  have hG : ∀ w ∈ qm_G, w.before #[.ref h0] s = true := fun w hw => hts w (List.mem_cons_of_mem _ hw)
  have hown : s.vm.findClass RX8 = some m.cls := findClass_of_methodNamed B.named
  have hlocks := B.notSynchronized
  have hin : meth.name = "<init>" := (name_of_methodNamed B.named B.method).1
  subst hsz
  have hD := hD0.self (sz := s.heap.size)
  generalize hAe : va_A [(h0, .inr (7, [.null, .null, .null, .int 0, .null, .null, .null, .null, .null]))] s.heap.size = A at hD hE ⊢
  have hA : ∀ q : Nat, s.heap.size ≤ q → A q := fun q h => by rw [← hAe]; exact Or.inr h
  have hS : va_S A s.heap s.heap [] := va_S.rf
  have hP : va_P D vwCl [(h0, .inr (7, [.null, .null, .null, .int 0, .null, .null, .null, .null, .null]))] s.heap := hP
  have hl := lv_entry ([.ref h0]) (n := 1) (Nat.le_of_ble_eq_true rfl)
  rw [lg_entry_eq]
  generalize (lg_sl ([.ref h0]) ++ List.replicate (1 - (lg_sl ([.ref h0])).length) Slot.unset).toArray = ls at hl ⊢
  have hl : lv_has ls 1 [(0, .ref h0)] := hl
  obtain ⟨wT, hwT⟩ : ∃ w9 : Nat → (Nat → Nat) → va_W, w9 = qn_wT cA := ⟨_, rfl⟩
  obtain ⟨wX, hwX⟩ : ∃ w9 : (Nat → Nat) × qm_St → va_W, w9 = qn_wX cA cR := ⟨_, rfl⟩
  obtain ⟨wS, hwS⟩ : ∃ w9 : (Nat → Nat) × qm_St → va_W, w9 = qn_wS cA cR := ⟨_, rfl⟩
  obtain ⟨wO, hwO⟩ : ∃ w9 : Nat → (Nat → Nat) → va_W, w9 = qn_wO cA := ⟨_, rfl⟩
  obtain ⟨wE, hwE⟩ : ∃ w9 : Nat → (Nat → Nat) → va_W, w9 = qn_wEE := ⟨_, rfl⟩
  obtain ⟨wF, hwF⟩ : ∃ w9 : Nat → (Nat → Nat) → va_W, w9 = qn_wF cA := ⟨_, rfl⟩
  refine lv_aload_n hx hb dX8_init_0 rfl (lv_at hl 0 rfl) ?_
  refine W.objInit hx hb hown (hG _ qn_z96) (hG _ qn_z97) (hG _ qn_z98) rfl (by rw [hml]; exact hl.1) rfl dX8_init_1 (Nat.le_of_ble_eq_true rfl) (Nat.le_of_ble_eq_true rfl) ?_
  refine W.eq (g2 := F0 m 4 ls []) rfl ?_
  refine lv_aload_n hx hb dX8_init_4 rfl (lv_at hl 0 rfl) ?_
  refine va_new (ci := 6) (fs := [.int 0, .int 0, .int 0, .int 0, .null, .null, .null, .null, .null]) (C := RX7) (T := TX7) (N := 9) (Ts := qm_G) hx hb hG qm_cs6 tyX7 tyX7_ok hown (hG _ qn_z99) (hG _ qn_z100) (hG _ qn_z74) hK hP hD hS hA rfl (fun j hj => by rcases (show j = 0 ∨ j = 1 ∨ j = 2 ∨ j = 3 ∨ j = 4 ∨ j = 5 ∨ j = 6 ∨ j = 7 ∨ j = 8 by omega) with rfl | rfl | rfl | rfl | rfl | rfl | rfl | rfl | rfl <;> rfl) (Nat.le_of_ble_eq_true rfl) (Nat.le_of_ble_eq_true rfl) dX8_init_5 (fun t0 H hP hD hS => ?_)
  refine lv_dup hx hb dX8_init_8 rfl ?_
  refine qn_ctorN (y := yX7_init) (bytes := cX7_init) (maxL := 1) (rm := { frames := 1, cells := 5, slots := 35, locals := 12 }) (mc := 5) (ms := 35) (ws := ((h0, .inr (7, [.null, .null, .null, .int 0, .null, .null, .null, .null, .null])) :: [])) (wc := wT t0) (rest := [.ref t0, .ref h0]) (host := "FirstColour") hx hb hml hown hG (fun sz => (by rw [hwT]; exact n_X7_init l D cA cR t0 sz)) ⟨rfl, rfl⟩ ⟨(Nat.le_of_ble_eq_true rfl), (Nat.le_of_ble_eq_true rfl)⟩ qn_z103 qn_z74 ⟨by decide, by decide⟩ (by decide +kernel) (hnx.at (by decide +kernel) _) qn_z102 rfl hl.1 (Nat.le_of_ble_eq_true rfl) dX8_init_9 ⟨(Nat.le_of_ble_eq_true rfl), (Nat.le_of_ble_eq_true rfl)⟩ hK hP hD hS hA (fun b0 H locs _ hP hD hS => ?_)
  have hP : va_P D vwCl ((h0, .inr (7, [.null, .null, .null, .int 0, .null, .null, .null, .null, .null])) :: wT t0 b0) H := hP
  have hD : va_D A ((h0, .inr (7, [.null, .null, .null, .int 0, .null, .null, .null, .null, .null])) :: wT t0 b0) := hD
  refine va_putF (D := D) (ci := 7) (v := .ref t0) (ty := .object "FirstColour$Town") (C := RX8) (T := TX8) (N := 9) (Ts := qm_G) hx hb hG qm_cs7 tyX8 tyX8_ok nmX8 hown hK hP hD hS 0 rfl rfl 0 (by decide) (hG _ qn_z450) (fun _ h9 => h9) rfl hin rfl (by decide +kernel) rfl rfl (Nat.le_of_ble_eq_true rfl) dX8_init_12 (fun H locs hP hD hS => ?_)
  have hP : va_P D vwCl ((h0, .inr (7, [.ref t0, .null, .null, .int 0, .null, .null, .null, .null, .null])) :: wT t0 b0) H := hP
  have hD : va_D A ((h0, .inr (7, [.ref t0, .null, .null, .int 0, .null, .null, .null, .null, .null])) :: wT t0 b0) := hD
  refine lv_aload_n hx hb dX8_init_15 rfl (lv_at hl 0 rfl) ?_
  refine va_new (ci := 6) (fs := [.int 0, .int 0, .int 0, .int 0, .null, .null, .null, .null, .null]) (C := RX7) (T := TX7) (N := 9) (Ts := qm_G) hx hb hG qm_cs6 tyX7 tyX7_ok hown (hG _ qn_z99) (hG _ qn_z100) (hG _ qn_z74) hK hP hD hS hA rfl (fun j hj => by rcases (show j = 0 ∨ j = 1 ∨ j = 2 ∨ j = 3 ∨ j = 4 ∨ j = 5 ∨ j = 6 ∨ j = 7 ∨ j = 8 by omega) with rfl | rfl | rfl | rfl | rfl | rfl | rfl | rfl | rfl <;> rfl) (Nat.le_of_ble_eq_true rfl) (Nat.le_of_ble_eq_true rfl) dX8_init_16 (fun t1 H hP hD hS => ?_)
  refine lv_dup hx hb dX8_init_19 rfl ?_
  refine qn_ctorN (y := yX7_init) (bytes := cX7_init) (maxL := 1) (rm := { frames := 1, cells := 5, slots := 35, locals := 12 }) (mc := 5) (ms := 35) (ws := ((h0, .inr (7, [.ref t0, .null, .null, .int 0, .null, .null, .null, .null, .null])) :: wT t0 b0)) (wc := wT t1) (rest := [.ref t1, .ref h0]) (host := "FirstColour") hx hb hml hown hG (fun sz => (by rw [hwT]; exact n_X7_init l D cA cR t1 sz)) ⟨rfl, rfl⟩ ⟨(Nat.le_of_ble_eq_true rfl), (Nat.le_of_ble_eq_true rfl)⟩ qn_z103 qn_z74 ⟨by decide, by decide⟩ (by decide +kernel) (hnx.at (by decide +kernel) _) qn_z102 rfl hl.1 (Nat.le_of_ble_eq_true rfl) dX8_init_20 ⟨(Nat.le_of_ble_eq_true rfl), (Nat.le_of_ble_eq_true rfl)⟩ hK hP hD hS hA (fun b1 H locs _ hP hD hS => ?_)
  have hP : va_P D vwCl ((h0, .inr (7, [.ref t0, .null, .null, .int 0, .null, .null, .null, .null, .null])) :: (wT t0 b0 ++ wT t1 b1)) H := hP
  have hD : va_D A ((h0, .inr (7, [.ref t0, .null, .null, .int 0, .null, .null, .null, .null, .null])) :: (wT t0 b0 ++ wT t1 b1)) := hD
  refine va_putF (D := D) (ci := 7) (v := .ref t1) (ty := .object "FirstColour$Town") (C := RX8) (T := TX8) (N := 9) (Ts := qm_G) hx hb hG qm_cs7 tyX8 tyX8_ok nmX8 hown hK hP hD hS 0 rfl rfl 1 (by decide) (hG _ qn_z451) (fun _ h9 => h9) rfl hin rfl (by decide +kernel) rfl rfl (Nat.le_of_ble_eq_true rfl) dX8_init_23 (fun H locs hP hD hS => ?_)
  have hP : va_P D vwCl ((h0, .inr (7, [.ref t0, .ref t1, .null, .int 0, .null, .null, .null, .null, .null])) :: (wT t0 b0 ++ wT t1 b1)) H := hP
  have hD : va_D A ((h0, .inr (7, [.ref t0, .ref t1, .null, .int 0, .null, .null, .null, .null, .null])) :: (wT t0 b0 ++ wT t1 b1)) := hD
  refine lv_aload_n hx hb dX8_init_26 rfl (lv_at hl 0 rfl) ?_
  refine va_new (ci := 6) (fs := [.int 0, .int 0, .int 0, .int 0, .null, .null, .null, .null, .null]) (C := RX7) (T := TX7) (N := 9) (Ts := qm_G) hx hb hG qm_cs6 tyX7 tyX7_ok hown (hG _ qn_z99) (hG _ qn_z100) (hG _ qn_z74) hK hP hD hS hA rfl (fun j hj => by rcases (show j = 0 ∨ j = 1 ∨ j = 2 ∨ j = 3 ∨ j = 4 ∨ j = 5 ∨ j = 6 ∨ j = 7 ∨ j = 8 by omega) with rfl | rfl | rfl | rfl | rfl | rfl | rfl | rfl | rfl <;> rfl) (Nat.le_of_ble_eq_true rfl) (Nat.le_of_ble_eq_true rfl) dX8_init_27 (fun t2 H hP hD hS => ?_)
  refine lv_dup hx hb dX8_init_30 rfl ?_
  refine qn_ctorN (y := yX7_init) (bytes := cX7_init) (maxL := 1) (rm := { frames := 1, cells := 5, slots := 35, locals := 12 }) (mc := 5) (ms := 35) (ws := ((h0, .inr (7, [.ref t0, .ref t1, .null, .int 0, .null, .null, .null, .null, .null])) :: (wT t0 b0 ++ wT t1 b1))) (wc := wT t2) (rest := [.ref t2, .ref h0]) (host := "FirstColour") hx hb hml hown hG (fun sz => (by rw [hwT]; exact n_X7_init l D cA cR t2 sz)) ⟨rfl, rfl⟩ ⟨(Nat.le_of_ble_eq_true rfl), (Nat.le_of_ble_eq_true rfl)⟩ qn_z103 qn_z74 ⟨by decide, by decide⟩ (by decide +kernel) (hnx.at (by decide +kernel) _) qn_z102 rfl hl.1 (Nat.le_of_ble_eq_true rfl) dX8_init_31 ⟨(Nat.le_of_ble_eq_true rfl), (Nat.le_of_ble_eq_true rfl)⟩ hK hP hD hS hA (fun b2 H locs _ hP hD hS => ?_)
  have hP : va_P D vwCl ((h0, .inr (7, [.ref t0, .ref t1, .null, .int 0, .null, .null, .null, .null, .null])) :: ((wT t0 b0 ++ wT t1 b1) ++ wT t2 b2)) H := hP
  have hD : va_D A ((h0, .inr (7, [.ref t0, .ref t1, .null, .int 0, .null, .null, .null, .null, .null])) :: ((wT t0 b0 ++ wT t1 b1) ++ wT t2 b2)) := hD
  refine va_putF (D := D) (ci := 7) (v := .ref t2) (ty := .object "FirstColour$Town") (C := RX8) (T := TX8) (N := 9) (Ts := qm_G) hx hb hG qm_cs7 tyX8 tyX8_ok nmX8 hown hK hP hD hS 0 rfl rfl 2 (by decide) (hG _ qn_z452) (fun _ h9 => h9) rfl hin rfl (by decide +kernel) rfl rfl (Nat.le_of_ble_eq_true rfl) dX8_init_34 (fun H locs hP hD hS => ?_)
  have hP : va_P D vwCl ((h0, .inr (7, [.ref t0, .ref t1, .ref t2, .int 0, .null, .null, .null, .null, .null])) :: ((wT t0 b0 ++ wT t1 b1) ++ wT t2 b2)) H := hP
  have hD : va_D A ((h0, .inr (7, [.ref t0, .ref t1, .ref t2, .int 0, .null, .null, .null, .null, .null])) :: ((wT t0 b0 ++ wT t1 b1) ++ wT t2 b2)) := hD
  refine lv_aload_n hx hb dX8_init_37 rfl (lv_at hl 0 rfl) ?_
  refine lv_iconst hx hb dX8_init_38 rfl ?_
  refine va_put (D := D) (ci := 7) (v := .int 0) (ty := .boolean) (C := RX8) (T := TX8) (N := 9) (Ts := qm_G) hx hb hG qm_cs7 tyX8 tyX8_ok nmX8 hown hK hP hD hS 0 rfl rfl 3 (by decide) (hG _ qn_z453) (fun _ h9 => h9) rfl (by decide +kernel) rfl rfl (Nat.le_of_ble_eq_true rfl) dX8_init_39 (fun H locs hP hD hS => ?_)
  have hP : va_P D vwCl ((h0, .inr (7, [.ref t0, .ref t1, .ref t2, .int 0, .null, .null, .null, .null, .null])) :: ((wT t0 b0 ++ wT t1 b1) ++ wT t2 b2)) H := hP
  have hD : va_D A ((h0, .inr (7, [.ref t0, .ref t1, .ref t2, .int 0, .null, .null, .null, .null, .null])) :: ((wT t0 b0 ++ wT t1 b1) ++ wT t2 b2)) := hD
  refine lv_aload_n hx hb dX8_init_42 rfl (lv_at hl 0 rfl) ?_
  refine va_new (ci := 5) (fs := [.int 0, .int 0, .null, .null, .null, .null, .null, .null]) (C := RX6) (T := TX6) (N := 8) (Ts := qm_G) hx hb hG qm_cs5 tyX6 tyX6_ok hown (hG _ qn_z153) (hG _ qn_z154) (hG _ qn_z75) hK hP hD hS hA rfl (fun j hj => by rcases (show j = 0 ∨ j = 1 ∨ j = 2 ∨ j = 3 ∨ j = 4 ∨ j = 5 ∨ j = 6 ∨ j = 7 by omega) with rfl | rfl | rfl | rfl | rfl | rfl | rfl | rfl <;> rfl) (Nat.le_of_ble_eq_true rfl) (Nat.le_of_ble_eq_true rfl) dX8_init_43 (fun x0 H hP hD hS => ?_)
  refine lv_dup hx hb dX8_init_46 rfl ?_
  refine qn_ctorE (y := yX6_init) (bytes := cX6_init) (maxL := 2) (rm := { frames := 58, cells := 21, slots := 1560, locals := 3712 }) (mc := 21) (ms := 1560) (ws := ((h0, .inr (7, [.ref t0, .ref t1, .ref t2, .int 0, .null, .null, .null, .null, .null])) :: ((wT t0 b0 ++ wT t1 b1) ++ wT t2 b2))) (wc := wX) (rest := [.ref x0, .ref h0]) hx hb hml hown hG (fun U g mk a h => h.calling g mk a) (fun U hW => hnx.warm hW) (fun sz => (by rw [hwX]; exact n_X6_init l D cA cR β x0 sz)) ⟨rfl, rfl⟩ ⟨(Nat.le_of_ble_eq_true rfl), (Nat.le_of_ble_eq_true rfl)⟩ qn_z157 qn_z75 ⟨by decide, by decide⟩ (by decide +kernel) qn_z155 qn_z156 rfl hl.1 (Nat.le_of_ble_eq_true rfl) dX8_init_47 ⟨(Nat.le_of_ble_eq_true rfl), (Nat.le_of_ble_eq_true rfl)⟩ hE hK hP hD hS hA (fun uT H locs g_uT hP hD hS => ?_)
  have hP : va_P D vwCl ((h0, .inr (7, [.ref t0, .ref t1, .ref t2, .int 0, .null, .null, .null, .null, .null])) :: (((wT t0 b0 ++ wT t1 b1) ++ wT t2 b2) ++ wX uT)) H := hP
  have hD : va_D A ((h0, .inr (7, [.ref t0, .ref t1, .ref t2, .int 0, .null, .null, .null, .null, .null])) :: (((wT t0 b0 ++ wT t1 b1) ++ wT t2 b2) ++ wX uT)) := hD
  obtain ⟨gx, gT1, gT2, gT3, gT4⟩ := g_uT
  refine va_putF (D := D) (ci := 7) (v := .ref x0) (ty := .object "FirstColour$Texts") (C := RX8) (T := TX8) (N := 9) (Ts := qm_G) hx hb hG qm_cs7 tyX8 tyX8_ok nmX8 hown hK hP hD hS 0 rfl rfl 4 (by decide) (hG _ qn_z454) (fun _ h9 => h9) rfl hin rfl (by decide +kernel) rfl rfl (Nat.le_of_ble_eq_true rfl) dX8_init_50 (fun H locs hP hD hS => ?_)
  have hP : va_P D vwCl ((h0, .inr (7, [.ref t0, .ref t1, .ref t2, .int 0, .ref x0, .null, .null, .null, .null])) :: (((wT t0 b0 ++ wT t1 b1) ++ wT t2 b2) ++ wX uT)) H := hP
  have hD : va_D A ((h0, .inr (7, [.ref t0, .ref t1, .ref t2, .int 0, .ref x0, .null, .null, .null, .null])) :: (((wT t0 b0 ++ wT t1 b1) ++ wT t2 b2) ++ wX uT)) := hD
  refine lv_aload_n hx hb dX8_init_53 rfl (lv_at hl 0 rfl) ?_
  refine va_new (ci := 4) (fs := [.null, .null, .null]) (C := RX5) (T := TX5) (N := 3) (Ts := qm_G) hx hb hG qm_cs4 tyX5 tyX5_ok hown (hG _ qn_z375) (hG _ qn_z376) (hG _ qn_z82) hK hP hD hS hA rfl (fun j hj => by rcases (show j = 0 ∨ j = 1 ∨ j = 2 by omega) with rfl | rfl | rfl <;> rfl) (Nat.le_of_ble_eq_true rfl) (Nat.le_of_ble_eq_true rfl) dX8_init_54 (fun y0 H hP hD hS => ?_)
  refine lv_dup hx hb dX8_init_57 rfl ?_
  refine qn_ctorE (y := yX5_init) (bytes := cX5_init) (maxL := 1) (rm := { frames := 7, cells := 7, slots := 172, locals := 448 }) (mc := 7) (ms := 172) (ws := ((h0, .inr (7, [.ref t0, .ref t1, .ref t2, .int 0, .ref x0, .null, .null, .null, .null])) :: (((wT t0 b0 ++ wT t1 b1) ++ wT t2 b2) ++ wX uT))) (wc := wS) (rest := [.ref y0, .ref h0]) hx hb hml hown hG (fun U g mk a h => h.moved (U := U.calling g mk a) (Vm.Alike.refl U.vm)) (fun U hW => hnx.1.moved hW.alike) (fun sz => (by rw [hwS]; exact n_X5_init l D cA cR β y0 sz)) ⟨rfl, rfl⟩ ⟨(Nat.le_of_ble_eq_true rfl), (Nat.le_of_ble_eq_true rfl)⟩ qn_z379 qn_z82 ⟨by decide, by decide⟩ (by decide +kernel) qn_z377 qn_z378 rfl hl.1 (Nat.le_of_ble_eq_true rfl) dX8_init_58 ⟨(Nat.le_of_ble_eq_true rfl), (Nat.le_of_ble_eq_true rfl)⟩ hE hK hP hD hS hA (fun uS H locs g_uS hP hD hS => ?_)
  have hP : va_P D vwCl ((h0, .inr (7, [.ref t0, .ref t1, .ref t2, .int 0, .ref x0, .null, .null, .null, .null])) :: ((((wT t0 b0 ++ wT t1 b1) ++ wT t2 b2) ++ wX uT) ++ wS uS)) H := hP
  have hD : va_D A ((h0, .inr (7, [.ref t0, .ref t1, .ref t2, .int 0, .ref x0, .null, .null, .null, .null])) :: ((((wT t0 b0 ++ wT t1 b1) ++ wT t2 b2) ++ wX uT) ++ wS uS)) := hD
  obtain ⟨gy, gS1, gS2⟩ := g_uS
  refine va_putF (D := D) (ci := 7) (v := .ref y0) (ty := .object "FirstColour$Sheets") (C := RX8) (T := TX8) (N := 9) (Ts := qm_G) hx hb hG qm_cs7 tyX8 tyX8_ok nmX8 hown hK hP hD hS 0 rfl rfl 5 (by decide) (hG _ qn_z455) (fun _ h9 => h9) rfl hin rfl (by decide +kernel) rfl rfl (Nat.le_of_ble_eq_true rfl) dX8_init_61 (fun H locs hP hD hS => ?_)
  have hP : va_P D vwCl ((h0, .inr (7, [.ref t0, .ref t1, .ref t2, .int 0, .ref x0, .ref y0, .null, .null, .null])) :: ((((wT t0 b0 ++ wT t1 b1) ++ wT t2 b2) ++ wX uT) ++ wS uS)) H := hP
  have hD : va_D A ((h0, .inr (7, [.ref t0, .ref t1, .ref t2, .int 0, .ref x0, .ref y0, .null, .null, .null])) :: ((((wT t0 b0 ++ wT t1 b1) ++ wT t2 b2) ++ wX uT) ++ wS uS)) := hD
  refine lv_aload_n hx hb dX8_init_64 rfl (lv_at hl 0 rfl) ?_
  refine va_new (ci := 1) (fs := [.null, .int 0]) (C := RX2) (T := TX2) (N := 2) (Ts := qm_G) hx hb hG qm_cs1 tyX2 tyX2_ok hown (hG _ qn_z399) (hG _ qn_z400) (hG _ qn_z84) hK hP hD hS hA rfl (fun j hj => by rcases (show j = 0 ∨ j = 1 by omega) with rfl | rfl <;> rfl) (Nat.le_of_ble_eq_true rfl) (Nat.le_of_ble_eq_true rfl) dX8_init_65 (fun o0 H hP hD hS => ?_)
  refine lv_dup hx hb dX8_init_68 rfl ?_
  refine qn_ctorN (y := yX2_init) (bytes := cX2_init) (maxL := 1) (rm := { frames := 1, cells := 1, slots := 7, locals := 12 }) (mc := 1) (ms := 7) (ws := ((h0, .inr (7, [.ref t0, .ref t1, .ref t2, .int 0, .ref x0, .ref y0, .null, .null, .null])) :: ((((wT t0 b0 ++ wT t1 b1) ++ wT t2 b2) ++ wX uT) ++ wS uS))) (wc := wO o0) (rest := [.ref o0, .ref h0]) (host := "FirstColour") hx hb hml hown hG (fun sz => (by rw [hwO]; exact n_X2_init l D cA cR o0 sz)) ⟨rfl, rfl⟩ ⟨(Nat.le_of_ble_eq_true rfl), (Nat.le_of_ble_eq_true rfl)⟩ qn_z403 qn_z84 ⟨by decide, by decide⟩ (by decide +kernel) (hnx.at (by decide +kernel) _) qn_z402 rfl hl.1 (Nat.le_of_ble_eq_true rfl) dX8_init_69 ⟨(Nat.le_of_ble_eq_true rfl), (Nat.le_of_ble_eq_true rfl)⟩ hK hP hD hS hA (fun bo H locs _ hP hD hS => ?_)
  have hP : va_P D vwCl ((h0, .inr (7, [.ref t0, .ref t1, .ref t2, .int 0, .ref x0, .ref y0, .null, .null, .null])) :: (((((wT t0 b0 ++ wT t1 b1) ++ wT t2 b2) ++ wX uT) ++ wS uS) ++ wO o0 bo)) H := hP
  have hD : va_D A ((h0, .inr (7, [.ref t0, .ref t1, .ref t2, .int 0, .ref x0, .ref y0, .null, .null, .null])) :: (((((wT t0 b0 ++ wT t1 b1) ++ wT t2 b2) ++ wX uT) ++ wS uS) ++ wO o0 bo)) := hD
  refine va_putF (D := D) (ci := 7) (v := .ref o0) (ty := .object "FirstColour$Order") (C := RX8) (T := TX8) (N := 9) (Ts := qm_G) hx hb hG qm_cs7 tyX8 tyX8_ok nmX8 hown hK hP hD hS 0 rfl rfl 6 (by decide) (hG _ qn_z456) (fun _ h9 => h9) rfl hin rfl (by decide +kernel) rfl rfl (Nat.le_of_ble_eq_true rfl) dX8_init_72 (fun H locs hP hD hS => ?_)
  have hP : va_P D vwCl ((h0, .inr (7, [.ref t0, .ref t1, .ref t2, .int 0, .ref x0, .ref y0, .ref o0, .null, .null])) :: (((((wT t0 b0 ++ wT t1 b1) ++ wT t2 b2) ++ wX uT) ++ wS uS) ++ wO o0 bo)) H := hP
  have hD : va_D A ((h0, .inr (7, [.ref t0, .ref t1, .ref t2, .int 0, .ref x0, .ref y0, .ref o0, .null, .null])) :: (((((wT t0 b0 ++ wT t1 b1) ++ wT t2 b2) ++ wX uT) ++ wS uS) ++ wO o0 bo)) := hD
  refine lv_aload_n hx hb dX8_init_75 rfl (lv_at hl 0 rfl) ?_
  refine va_new (ci := 3) (fs := [.int 0, .int 0, .int 0]) (C := RX4) (T := TX4) (N := 3) (Ts := qm_G) hx hb hG qm_cs3 tyX4 tyX4_ok hown (hG _ qn_z416) (hG _ qn_z417) (hG _ qn_z85) hK hP hD hS hA rfl (fun j hj => by rcases (show j = 0 ∨ j = 1 ∨ j = 2 by omega) with rfl | rfl | rfl <;> rfl) (Nat.le_of_ble_eq_true rfl) (Nat.le_of_ble_eq_true rfl) dX8_init_76 (fun s0 H hP hD hS => ?_)
  refine lv_dup hx hb dX8_init_79 rfl ?_
  refine qn_ctorN (y := yX4_init) (bytes := cX4_init) (maxL := 1) (rm := { frames := 1, cells := 0, slots := 0, locals := 12 }) (mc := 0) (ms := 0) (ws := ((h0, .inr (7, [.ref t0, .ref t1, .ref t2, .int 0, .ref x0, .ref y0, .ref o0, .null, .null])) :: (((((wT t0 b0 ++ wT t1 b1) ++ wT t2 b2) ++ wX uT) ++ wS uS) ++ wO o0 bo))) (wc := wE s0) (rest := [.ref s0, .ref h0]) (host := "FirstColour") hx hb hml hown hG (fun sz => (by rw [hwE]; exact n_X4_init l D cA cR s0 sz)) ⟨rfl, rfl⟩ ⟨(Nat.le_of_ble_eq_true rfl), (Nat.le_of_ble_eq_true rfl)⟩ qn_z420 qn_z85 ⟨by decide, by decide⟩ (by decide +kernel) (hnx.at (by decide +kernel) _) qn_z419 rfl hl.1 (Nat.le_of_ble_eq_true rfl) dX8_init_80 ⟨(Nat.le_of_ble_eq_true rfl), (Nat.le_of_ble_eq_true rfl)⟩ hK hP hD hS hA (fun us H locs _ hP hD hS => ?_)
  have hP : va_P D vwCl ((h0, .inr (7, [.ref t0, .ref t1, .ref t2, .int 0, .ref x0, .ref y0, .ref o0, .null, .null])) :: ((((((wT t0 b0 ++ wT t1 b1) ++ wT t2 b2) ++ wX uT) ++ wS uS) ++ wO o0 bo) ++ wE s0 us)) H := hP
  have hD : va_D A ((h0, .inr (7, [.ref t0, .ref t1, .ref t2, .int 0, .ref x0, .ref y0, .ref o0, .null, .null])) :: ((((((wT t0 b0 ++ wT t1 b1) ++ wT t2 b2) ++ wX uT) ++ wS uS) ++ wO o0 bo) ++ wE s0 us)) := hD
  refine va_putF (D := D) (ci := 7) (v := .ref s0) (ty := .object "FirstColour$Search") (C := RX8) (T := TX8) (N := 9) (Ts := qm_G) hx hb hG qm_cs7 tyX8 tyX8_ok nmX8 hown hK hP hD hS 0 rfl rfl 7 (by decide) (hG _ qn_z457) (fun _ h9 => h9) rfl hin rfl (by decide +kernel) rfl rfl (Nat.le_of_ble_eq_true rfl) dX8_init_83 (fun H locs hP hD hS => ?_)
  have hP : va_P D vwCl ((h0, .inr (7, [.ref t0, .ref t1, .ref t2, .int 0, .ref x0, .ref y0, .ref o0, .ref s0, .null])) :: ((((((wT t0 b0 ++ wT t1 b1) ++ wT t2 b2) ++ wX uT) ++ wS uS) ++ wO o0 bo) ++ wE s0 us)) H := hP
  have hD : va_D A ((h0, .inr (7, [.ref t0, .ref t1, .ref t2, .int 0, .ref x0, .ref y0, .ref o0, .ref s0, .null])) :: ((((((wT t0 b0 ++ wT t1 b1) ++ wT t2 b2) ++ wX uT) ++ wS uS) ++ wO o0 bo) ++ wE s0 us)) := hD
  refine lv_aload_n hx hb dX8_init_86 rfl (lv_at hl 0 rfl) ?_
  refine va_new (ci := 0) (fs := [.null, .null, .int 0]) (C := RX0) (T := TX0) (N := 3) (Ts := qm_G) hx hb hG qm_cs0 tyX0 tyX0_ok hown (hG _ qn_z434) (hG _ qn_z435) (hG _ qn_z86) hK hP hD hS hA rfl (fun j hj => by rcases (show j = 0 ∨ j = 1 ∨ j = 2 by omega) with rfl | rfl | rfl <;> rfl) (Nat.le_of_ble_eq_true rfl) (Nat.le_of_ble_eq_true rfl) dX8_init_87 (fun f0 H hP hD hS => ?_)
  refine lv_dup hx hb dX8_init_90 rfl ?_
  refine qn_ctorN (y := yX0_init) (bytes := cX0_init) (maxL := 1) (rm := { frames := 1, cells := 2, slots := 256, locals := 12 }) (mc := 2) (ms := 256) (ws := ((h0, .inr (7, [.ref t0, .ref t1, .ref t2, .int 0, .ref x0, .ref y0, .ref o0, .ref s0, .null])) :: ((((((wT t0 b0 ++ wT t1 b1) ++ wT t2 b2) ++ wX uT) ++ wS uS) ++ wO o0 bo) ++ wE s0 us))) (wc := wF f0) (rest := [.ref f0, .ref h0]) (host := "FirstColour") hx hb hml hown hG (fun sz => (by rw [hwF]; exact n_X0_init l D cA cR f0 sz)) ⟨rfl, rfl⟩ ⟨(Nat.le_of_ble_eq_true rfl), (Nat.le_of_ble_eq_true rfl)⟩ qn_z438 qn_z86 ⟨by decide, by decide⟩ (by decide +kernel) (hnx.at (by decide +kernel) _) qn_z437 rfl hl.1 (Nat.le_of_ble_eq_true rfl) dX8_init_91 ⟨(Nat.le_of_ble_eq_true rfl), (Nat.le_of_ble_eq_true rfl)⟩ hK hP hD hS hA (fun bf H locs _ hP hD hS => ?_)
  have hP : va_P D vwCl ((h0, .inr (7, [.ref t0, .ref t1, .ref t2, .int 0, .ref x0, .ref y0, .ref o0, .ref s0, .null])) :: (((((((wT t0 b0 ++ wT t1 b1) ++ wT t2 b2) ++ wX uT) ++ wS uS) ++ wO o0 bo) ++ wE s0 us) ++ wF f0 bf)) H := hP
  have hD : va_D A ((h0, .inr (7, [.ref t0, .ref t1, .ref t2, .int 0, .ref x0, .ref y0, .ref o0, .ref s0, .null])) :: (((((((wT t0 b0 ++ wT t1 b1) ++ wT t2 b2) ++ wX uT) ++ wS uS) ++ wO o0 bo) ++ wE s0 us) ++ wF f0 bf)) := hD
  refine va_putF (D := D) (ci := 7) (v := .ref f0) (ty := .object "FirstColour$Fits") (C := RX8) (T := TX8) (N := 9) (Ts := qm_G) hx hb hG qm_cs7 tyX8 tyX8_ok nmX8 hown hK hP hD hS 0 rfl rfl 8 (by decide) (hG _ qn_z458) (fun _ h9 => h9) rfl hin rfl (by decide +kernel) rfl rfl (Nat.le_of_ble_eq_true rfl) dX8_init_94 (fun H locs hP hD hS => ?_)
  have hP : va_P D vwCl ((h0, .inr (7, [.ref t0, .ref t1, .ref t2, .int 0, .ref x0, .ref y0, .ref o0, .ref s0, .ref f0])) :: (((((((wT t0 b0 ++ wT t1 b1) ++ wT t2 b2) ++ wX uT) ++ wS uS) ++ wO o0 bo) ++ wE s0 us) ++ wF f0 bf)) H := hP
  have hD : va_D A ((h0, .inr (7, [.ref t0, .ref t1, .ref t2, .int 0, .ref x0, .ref y0, .ref o0, .ref s0, .ref f0])) :: (((((((wT t0 b0 ++ wT t1 b1) ++ wT t2 b2) ++ wX uT) ++ wS uS) ++ wO o0 bo) ++ wE s0 us) ++ wF f0 bf)) := hD
  subst hwT hwX hwS hwO hwE hwF
  have hPp := qn_Pperm (qn_perm9 _ _ _ _ _ _ _ _ _) hP
  have hDp := qn_Dperm (qn_perm9 _ _ _ _ _ _ _ _ _) hD
  obtain ⟨hP9, hD9, hpC⟩ := qn_X8_end (β := β) gx gy gT1 gT2 gT3 gT4 gS1 gS2 hPp hDp
  exact W.vret hx hb hr (fun t ht hW => ⟨⟨(qn_aC β uT.1 (qn_nC t0 t1 t2 b0 b1 b2 uS.1 o0 s0 f0 h0 bo bf), qn_gC uT.2 uS.2), rfl, hpC, by rw [ht]; exact hP9, va_K.moved hW.alike hK, hD9⟩, hS.F ht⟩) hS.2.2 dX8_init_97

