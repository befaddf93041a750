/-! ===== the start state as a value ===== -/
def qn_X0 : gx_T := (1, fun _ p => fst_ 5 6 qn_c0 p, fun _ k => qn_c0.getD k 0)
def qn_T0 : tn_T := (0, 0, 0, 0, fun _ => 0, fun _ => 0, fun _ => 0, fun _ => 0, fun _ => 0)
def qn_G0 : gg_T := (qn_T0, qn_X0, (0, fun _ => 0), (false, qn_T0), (fun _ => -1, fun _ => 0, fun _ _ => 0))
theorem qn_X0_ok : gx_ok qn_X0 := by
  refine ⟨by decide, by decide, fun t ht => ?_⟩
  have ht0 : t < 1 := ht
  have e : t = 0 := by omega
  subst e
  refine ⟨rfl, by decide, fun p hp => ?_⟩
  rcases (show p = 0 ∨ p = 1 ∨ p = 2 by omega) with rfl | rfl | rfl <;> decide
theorem qn_G0_ok : gg_ok qn_G0 := by
  refine ⟨⟨by decide, by decide, by decide, fun l hl => absurd hl (Nat.not_lt_zero l)⟩, qn_X0_ok, ⟨by decide, fun i hi => absurd hi (Nat.not_lt_zero i)⟩, (fun h => by cases h), fun s hs => ⟨Or.inl rfl, Nat.zero_le _⟩, by decide⟩
theorem qn_CG0 {α β : Nat → Nat} {h0 h9 : Nat} {σ : qm_St} {u : (Nat → Nat) × qm_St} (hc : qn_pC β h0 (α, σ)) (hm : qn_pM α h9 σ u) : CG u.2 qn_G0 := by
  obtain ⟨-, -, c7, c8, c12, c6, c9, c18, c33, c35⟩ := hc
  obtain ⟨-, -, -, mI, mF, -⟩ := hm
  have eI : ∀ s, s < 27 → qm_rI u.2 s = qm_rI σ s := mI
  have eF : ∀ j, j < 42 → ∀ k, qm_rF u.2 j k = qm_rF σ j k := mF
  refine ⟨⟨?_, ?_, ?_, ?_, fun l hl => absurd hl (Nat.not_lt_zero l)⟩, ⟨?_, fun t ht => ?_⟩, ⟨?_, fun i hi => absurd hi (Nat.not_lt_zero i)⟩, ⟨?_, fun h => by cases h⟩, fun s hs => ⟨?_, ?_, fun i hi => ?_⟩⟩
  · exact (eI 9 (by omega)).trans (c9 9 (by omega) (by omega))
  · exact (eI 10 (by omega)).trans (c9 10 (by omega) (by omega))
  · exact (eI 11 (by omega)).trans (c9 11 (by omega) (by omega))
  · exact (eI 12 (by omega)).trans (c9 12 (by omega) (by omega))
  · exact (eI 7 (by omega)).trans c7
  · have ht0 : t < 1 := ht
    have e : t = 0 := by omega
    subst e
    have e7 : gx_s (gg_x qn_G0) 0 3 = 7 := rfl
    have c7 : qn_c0.length = 7 := rfl
    exact ⟨fun p hp => (eF 12 (by omega) p).trans (c12 p hp), fun k hk => (eF 6 (by omega) k).trans (c6 k (by omega))⟩
  · exact (eI 8 (by omega)).trans c8
  · exact (eI 26 (by omega)).trans (c9 26 (by omega) (by omega))
  · exact (eF 34 (by omega) s).trans (c33 s hs).2
  · exact (eF 33 (by omega) s).trans (c33 s hs).1
  · exact (eF (35 + s) (by omega) i).trans (c35 (35 + s) (by omega) (by omega) i)
theorem qn_MG0 {α : Nat → Nat} {h9 : Nat} {σ : qm_St} {u : (Nat → Nat) × qm_St} (hm : qn_pM α h9 σ u) : MG u.2 qn_G0 := by
  obtain ⟨-, -, -, -, -, m30, m29, m49, m48, mS, mJ, m51, mW⟩ := hm
  refine ⟨⟨⟨?_, ?_, fun l hl => absurd hl (Nat.not_lt_zero l)⟩, ⟨?_, fun l hl => absurd hl (Nat.not_lt_zero l)⟩⟩, ⟨m30, fun t ht => ?_⟩, ⟨m29, fun i hi => absurd hi (Nat.not_lt_zero i)⟩, ⟨?_, fun h => by cases h⟩, fun s hs => ⟨?_, ?_, fun i hi => ?_⟩, mW⟩
  · exact mS 27 (by omega) (by omega)
  · exact mS 31 (by omega) (by omega)
  · exact mS 28 (by omega) (by omega)
  · have ht0 : t < 1 := ht
    have e : t = 0 := by omega
    subst e
    have e7 : gx_s (gg_x qn_G0) 0 3 = 7 := rfl
    have c7 : qn_c0.length = 7 := rfl
    exact ⟨fun p hp => by rw [Nat.mul_zero, Nat.zero_add]; exact m49 p hp, fun k hk => by rw [Nat.mul_zero, Nat.zero_add]; exact m48 k (by omega)⟩
  · exact mS 32 (by omega) (by omega)
  · exact m51 s hs
  · exact mJ 52 (by omega) (by omega) s
  · exact mJ 53 (by omega) (by omega) _
/-! ===== the classes, as the tables have them ===== -/
set_option maxRecDepth 100000 in
theorem ql_s91 : (Jvm.Cond.classLink "FirstColourLaw" (7 : Nat) "FirstColour") ∈ qm_G := qm_inW (i := 91) (by decide +kernel) rfl
set_option maxRecDepth 100000 in
theorem ql_s92 : (Jvm.Cond.instantiable "FirstColour" (9 : Nat)) ∈ qm_G := qm_inW (i := 92) (by decide +kernel) rfl
set_option maxRecDepth 100000 in
theorem ql_s93 : (Jvm.Cond.methodLink "FirstColourLaw" (9 : Nat) ({ cls := "FirstColour", name := "<init>", desc := "()V" } : Jvm.MethodName)) ∈ qm_G := qm_inW (i := 93) (by decide +kernel) rfl
set_option maxRecDepth 100000 in
theorem ql_s94 : (Jvm.Cond.instanceMethod ({ cls := "FirstColour", name := "<init>", desc := "()V" } : Jvm.MethodName)) ∈ qm_G := qm_inW (i := 94) (by decide +kernel) rfl
set_option maxRecDepth 100000 in
theorem ql_s95 : (Jvm.Cond.code ({ cls := "FirstColour", name := "<init>", desc := "()V" } : Jvm.MethodName) prog_1_method_1_code (1 : Nat) (Option.none : Option Jvm.ClassFile.FieldType)) ∈ qm_G := by
  refine List.mem_filter.mpr ⟨?_, rfl⟩
  show _ ∈ k2_sels lw_privs ++ tables_1
  refine List.mem_append_right _ ?_
  show _ ∈ tables_1_1 ++ (tables_1_2 ++ (tables_1_3 ++ (tables_1_4 ++ (tables_1_5 ++ tables_1_6))))
  exact (List.mem_append_left _ (List.mem_of_getElem? (i := 23) rfl))
set_option maxRecDepth 100000 in
theorem ql_s925 : (Jvm.Cond.classLink "FirstColourLaw" (10 : Nat) "FirstColourModel") ∈ qm_G := qm_inW (i := 925) (by decide +kernel) rfl
set_option maxRecDepth 100000 in
theorem ql_s926 : (Jvm.Cond.instantiable "FirstColourModel" (39 : Nat)) ∈ qm_G := qm_inW (i := 926) (by decide +kernel) rfl
set_option maxRecDepth 100000 in
theorem ql_s927 : (Jvm.Cond.methodLink "FirstColourLaw" (12 : Nat) ({ cls := "FirstColourModel", name := "<init>", desc := "()V" } : Jvm.MethodName)) ∈ qm_G := qm_inW (i := 927) (by decide +kernel) rfl
set_option maxRecDepth 100000 in
theorem ql_s928 : (Jvm.Cond.instanceMethod ({ cls := "FirstColourModel", name := "<init>", desc := "()V" } : Jvm.MethodName)) ∈ qm_G := qm_inW (i := 928) (by decide +kernel) rfl
set_option maxRecDepth 100000 in
theorem ql_s929 : (Jvm.Cond.code ({ cls := "FirstColourModel", name := "<init>", desc := "()V" } : Jvm.MethodName) prog_11_method_1_code (2 : Nat) (Option.none : Option Jvm.ClassFile.FieldType)) ∈ qm_G := by
  refine List.mem_filter.mpr ⟨?_, rfl⟩
  show _ ∈ k2_sels lw_privs ++ tables_1
  refine List.mem_append_right _ ?_
  show _ ∈ tables_1_1 ++ (tables_1_2 ++ (tables_1_3 ++ (tables_1_4 ++ (tables_1_5 ++ tables_1_6))))
  exact (List.mem_append_right _ (List.mem_append_right _ (List.mem_append_right _ (List.mem_append_left _ (List.mem_of_getElem? (i := 137) rfl)))))
set_option maxRecDepth 100000 in
theorem qn_K0 {s : State} {args : Array Value} (hG : ∀ w ∈ qm_G, w.before args s = true) (hov : qn_ov s) : ∃ (D : va_G) (cA cR : ClassId), va_K D vwCl (qm_ty cA cR) s := by
  obtain ⟨c0, i0, k0⟩ := u_known (C := RX0) (T := TX0) (N := 3) (n := 3) hG qm_cs0 (hG _ qn_z435)
  obtain ⟨c1, i1, k1⟩ := u_known (C := RX2) (T := TX2) (N := 2) (n := 2) hG qm_cs1 (hG _ qn_z400)
  obtain ⟨c2, i2, k2⟩ := u_known (C := RX3) (T := TX3) (N := 10) (n := 10) hG qm_cs2 (hG _ qn_y160)
  obtain ⟨c3, i3, k3⟩ := u_known (C := RX4) (T := TX4) (N := 3) (n := 3) hG qm_cs3 (hG _ qn_z417)
  obtain ⟨c4, i4, k4⟩ := u_known (C := RX5) (T := TX5) (N := 3) (n := 3) hG qm_cs4 (hG _ qn_z376)
  obtain ⟨c5, i5, k5⟩ := u_known (C := RX6) (T := TX6) (N := 8) (n := 8) hG qm_cs5 (hG _ qn_z154)
  obtain ⟨c6, i6, k6⟩ := u_known (C := RX7) (T := TX7) (N := 9) (n := 9) hG qm_cs6 (hG _ qn_z100)
  obtain ⟨c7, i7, k7⟩ := u_known (C := RX8) (T := TX8) (N := 9) (n := 9) hG qm_cs7 (hG _ ql_s92)
  obtain ⟨c8, i8, k8⟩ := u_known (C := RX9) (T := TX9) (N := 39) (n := 39) hG qm_cs8 (hG _ ql_s926)
  obtain ⟨cA, kA, comp, a1, a2, a3⟩ := Cond.arrayClass_spec (hG _ qn_w152)
  obtain ⟨comp2, cR, kR, r1, r2, r3, r4, r5⟩ := Jvm.Stand.arrayOver_specB (hov args)
  refine ⟨(fun k => [c0, c1, c2, c3, c4, c5, c6, c7, c8].getD k c0, fun k => [i0, i1, i2, i3, i4, i5, i6, i7, i8].getD k i0), cA, cR, fun k q hq => ?_, fun k q hq => ?_⟩
  · rcases (show k = 0 ∨ k = 1 ∨ k = 2 ∨ k = 3 ∨ k = 4 ∨ k = 5 ∨ k = 6 ∨ k = 7 ∨ k = 8 ∨ 9 ≤ k by omega) with rfl | rfl | rfl | rfl | rfl | rfl | rfl | rfl | rfl | h
    · cases hq; exact k0
    · cases hq; exact k1
    · cases hq; exact k2
    · cases hq; exact k3
    · cases hq; exact k4
    · cases hq; exact k5
    · cases hq; exact k6
    · cases hq; exact k7
    · cases hq; exact k8
    · rw [List.getElem?_eq_none h] at hq; cases hq
  · rcases (show k = 0 ∨ k = 1 ∨ 2 ≤ k by omega) with rfl | rfl | h
    · cases hq; exact ⟨fun N z => ⟨(fun k h => by cases h), kA, a2, comp, a3⟩, a1⟩
    · cases hq; exact ⟨fun N z => ⟨(fun k h => by cases h), kR, r3, comp2, r4⟩, r5⟩
    · rw [List.getElem?_eq_none h] at hq; cases hq
