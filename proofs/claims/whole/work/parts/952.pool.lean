/-! ===== the pools, place by place ===== -/
def qm_clsP (C : String) (T : u_T) (N : Nat) : Prop := ∃ ty : Nat → FieldType, (∀ w ∈ u_ws C T N, w ∈ qm_G) ∧ (∀ j, j < N → parseFieldDescriptor (T j).2.2.1 = some (ty j)) ∧ ∀ a, a < N → ∀ b, b < N → a ≠ b → (T a).2.1 ≠ (T b).2.1
set_option maxRecDepth 100000 in
theorem qm_cl0 : qm_clsP RX0 TX0 3 := ⟨tyX0, qm_allG (by decide +kernel), tyX0_ok, nmX0⟩
set_option maxRecDepth 100000 in
theorem qm_cl1 : qm_clsP RX2 TX2 2 := ⟨tyX2, qm_allG (by decide +kernel), tyX2_ok, nmX2⟩
set_option maxRecDepth 100000 in
theorem qm_cl2 : qm_clsP RX3 TX3 10 := ⟨tyX3, qm_allG (by decide +kernel), tyX3_ok, nmX3⟩
set_option maxRecDepth 100000 in
theorem qm_cl3 : qm_clsP RX4 TX4 3 := ⟨tyX4, qm_allG (by decide +kernel), tyX4_ok, nmX4⟩
set_option maxRecDepth 100000 in
theorem qm_cl4 : qm_clsP RX5 TX5 3 := ⟨tyX5, qm_allG (by decide +kernel), tyX5_ok, nmX5⟩
set_option maxRecDepth 100000 in
theorem qm_cl5 : qm_clsP RX6 TX6 8 := ⟨tyX6, qm_allG (by decide +kernel), tyX6_ok, nmX6⟩
set_option maxRecDepth 100000 in
theorem qm_cl6 : qm_clsP RX7 TX7 9 := ⟨tyX7, qm_allG (by decide +kernel), tyX7_ok, nmX7⟩
set_option maxRecDepth 100000 in
theorem qm_cl7 : qm_clsP RX8 TX8 9 := ⟨tyX8, qm_allG (by decide +kernel), tyX8_ok, nmX8⟩
set_option maxRecDepth 100000 in
theorem qm_cl8 : qm_clsP RX9 TX9 39 := ⟨tyX9, qm_allG (by decide +kernel), tyX9_ok, nmX9⟩
theorem qm_pI : parseFieldDescriptor "I" = some .int := by decide +kernel
theorem qm_pZ : parseFieldDescriptor "Z" = some .boolean := by decide +kernel
theorem qm_okF {own : String} {idx ci k fl : Nat} {C : String} {T : u_T} {N : Nat} (h1 : vwCl[ci]? = some (C, T, N)) (h2 : k < N) (h3 : Cond.fieldLink own idx (T k).1 (T k).2.1 (T k).2.2.1 ∈ qm_G) (h4 : qm_clsP C T N) (h5 : fl = 0 → (T k).2.2.1 = "I" ∧ (T k).2.2.2 = false) (h6 : fl = 1 → (T k).2.2.1 = "Z" ∧ (T k).2.2.2 = false) : qm_peOK qm_G qm_cnm own idx (.inl (ci, k, fl)) := by
  obtain ⟨ty, g1, g2, g3⟩ := h4
  refine ⟨C, T, N, ty, h1, h2, h3, g1, g2, g3, fun e => ?_, fun e => ?_⟩
  · obtain ⟨a1, a2⟩ := h5 e
    have := g2 k h2
    rw [a1, qm_pI] at this
    exact ⟨(Option.some.inj this).symm, a2⟩
  · obtain ⟨a1, a2⟩ := h6 e
    have := g2 k h2
    rw [a1, qm_pZ] at this
    exact ⟨(Option.some.inj this).symm, a2⟩
theorem qm_lookup_mem {l : List (Nat × qm_PE)} {i : Nat} {z : qm_PE} (h : l.lookup i = some z) : (i, z) ∈ l := by
  induction l with
  | nil => cases h
  | cons q l ih =>
    obtain ⟨k, y⟩ := q
    rw [List.lookup_cons] at h
    split at h
    · rename_i e
      have : i = k := by simpa using e
      cases h
      rw [this]; exact List.mem_cons_self
    · exact List.mem_cons_of_mem _ (ih h)
theorem qo_0_11 : qm_peOK qm_G qm_cnm RX0 11 (.inl (0, 0, 2)) := qm_okF rfl (by decide) qw_440 qm_cl0 (fun h => absurd h (by decide)) (fun h => absurd h (by decide))
theorem qo_0_15 : qm_peOK qm_G qm_cnm RX0 15 (.inl (0, 1, 2)) := qm_okF rfl (by decide) qw_441 qm_cl0 (fun h => absurd h (by decide)) (fun h => absurd h (by decide))
theorem qo_0_18 : qm_peOK qm_G qm_cnm RX0 18 (.inl (0, 2, 0)) := qm_okF rfl (by decide) qw_442 qm_cl0 (fun _ => ⟨rfl, rfl⟩) (fun h => absurd h (by decide))
theorem qo_0_22 : qm_peOK qm_G qm_cnm RX0 22 (.inl (6, 0, 0)) := qm_okF rfl (by decide) qw_107 qm_cl6 (fun _ => ⟨rfl, rfl⟩) (fun h => absurd h (by decide))
theorem qo_0_27 : qm_peOK qm_G qm_cnm RX0 27 (.inr (.inl (false, mX7_colourAmong))) := ⟨qw_598, qw_817, qw_74, by decide +kernel, ⟨by decide +kernel, by decide +kernel⟩, by decide +kernel, rfl, by decide, (fun h => by cases h), (fun _ => ⟨qw_596, qw_597, _, _, rfl⟩)⟩
theorem qo_0_31 : qm_peOK qm_G qm_cnm RX0 31 (.inr (.inl (true, mJ6_numberOfTrailingZeros_0f7a4))) := ⟨qw_607, qw_822, qw_88, by decide +kernel, ⟨by decide +kernel, by decide +kernel⟩, by decide +kernel, rfl, by decide, (fun _ => qw_606), (fun h => by cases h)⟩
theorem qo_0_37 : qm_peOK qm_G qm_cnm RX0 37 (.inr (.inl (true, mJ7_fill_53178))) := ⟨qw_384, qw_721, qw_83, by decide +kernel, ⟨by decide +kernel, by decide +kernel⟩, by decide +kernel, rfl, by decide, (fun _ => qw_383), (fun h => by cases h)⟩
theorem qo_0_43 : qm_peOK qm_G qm_cnm RX0 43 (.inr (.inl (true, mX0_noneBeside))) := ⟨qw_724, qw_722, qw_86, by decide +kernel, ⟨by decide +kernel, by decide +kernel⟩, by decide +kernel, rfl, by decide, (fun _ => qw_723), (fun h => by cases h)⟩
theorem qo_0_47 : qm_peOK qm_G qm_cnm RX0 47 (.inr (.inr (.inr (.inr 0)))) := ⟨qw_725, qw_553, qw_89, qw_554⟩
theorem qo_0_53 : qm_peOK qm_G qm_cnm RX0 53 (.inl (6, 6, 2)) := qm_okF rfl (by decide) qw_124 qm_cl6 (fun h => absurd h (by decide)) (fun h => absurd h (by decide))
set_option maxRecDepth 100000 in
theorem qm_pk0 : ∀ q ∈ qm_pl0, qm_peOK qm_G qm_cnm (qm_cnm 0) q.1 q.2 := List.forall_mem_cons.mpr ⟨qo_0_11, List.forall_mem_cons.mpr ⟨qo_0_15, List.forall_mem_cons.mpr ⟨qo_0_18, List.forall_mem_cons.mpr ⟨qo_0_22, List.forall_mem_cons.mpr ⟨qo_0_27, List.forall_mem_cons.mpr ⟨qo_0_31, List.forall_mem_cons.mpr ⟨qo_0_37, List.forall_mem_cons.mpr ⟨qo_0_43, List.forall_mem_cons.mpr ⟨qo_0_47, List.forall_mem_cons.mpr ⟨qo_0_53, fun _ h => absurd h List.not_mem_nil⟩⟩⟩⟩⟩⟩⟩⟩⟩⟩
theorem qo_1_9 : qm_peOK qm_G qm_cnm RX2 9 (.inl (1, 0, 2)) := qm_okF rfl (by decide) qw_405 qm_cl1 (fun h => absurd h (by decide)) (fun h => absurd h (by decide))
theorem qo_1_15 : qm_peOK qm_G qm_cnm RX2 15 (.inl (1, 1, 0)) := qm_okF rfl (by decide) qw_408 qm_cl1 (fun _ => ⟨rfl, rfl⟩) (fun h => absurd h (by decide))
theorem qo_1_19 : qm_peOK qm_G qm_cnm RX2 19 (.inl (4, 1, 2)) := qm_okF rfl (by decide) qw_388 qm_cl4 (fun h => absurd h (by decide)) (fun h => absurd h (by decide))
theorem qo_1_24 : qm_peOK qm_G qm_cnm RX2 24 (.inr (.inl (true, mJ6_bitCount_0f7a4))) := ⟨qw_500, qw_746, qw_88, by decide +kernel, ⟨by decide +kernel, by decide +kernel⟩, by decide +kernel, rfl, by decide, (fun _ => qw_499), (fun h => by cases h)⟩
theorem qo_1_30 : qm_peOK qm_G qm_cnm RX2 30 (.inr (.inl (false, mX5_cellAt))) := ⟨qw_750, qw_747, qw_82, by decide +kernel, ⟨by decide +kernel, by decide +kernel⟩, by decide +kernel, rfl, by decide, (fun h => by cases h), (fun _ => ⟨qw_748, qw_749, _, _, rfl⟩)⟩
theorem qo_1_34 : qm_peOK qm_G qm_cnm RX2 34 (.inr (.inl (false, mX2_append))) := ⟨qw_758, qw_755, qw_84, by decide +kernel, ⟨by decide +kernel, by decide +kernel⟩, by decide +kernel, rfl, by decide, (fun h => by cases h), (fun _ => ⟨qw_757, qw_19, _, _, rfl⟩)⟩
theorem qo_1_38 : qm_peOK qm_G qm_cnm RX2 38 (.inr (.inl (false, mX7_unbuiltBits))) := ⟨qw_701, qw_781, qw_74, by decide +kernel, ⟨by decide +kernel, by decide +kernel⟩, by decide +kernel, rfl, by decide, (fun h => by cases h), (fun _ => ⟨qw_699, qw_700, _, _, rfl⟩)⟩
theorem qo_1_44 : qm_peOK qm_G qm_cnm RX2 44 (.inr (.inl (true, mX2_leastRanked))) := ⟨qw_784, qw_782, qw_84, by decide +kernel, ⟨by decide +kernel, by decide +kernel⟩, by decide +kernel, rfl, by decide, (fun _ => qw_783), (fun h => by cases h)⟩
theorem qo_1_48 : qm_peOK qm_G qm_cnm RX2 48 (.inr (.inl (true, mJ6_numberOfTrailingZeros_0f7a4))) := ⟨qw_607, qw_785, qw_88, by decide +kernel, ⟨by decide +kernel, by decide +kernel⟩, by decide +kernel, rfl, by decide, (fun _ => qw_606), (fun h => by cases h)⟩
theorem qo_1_51 : qm_peOK qm_G qm_cnm RX2 51 (.inr (.inr (.inl (2147483647)))) := qw_786
theorem qo_1_52 : qm_peOK qm_G qm_cnm RX2 52 (.inl (6, 6, 2)) := qm_okF rfl (by decide) qw_125 qm_cl6 (fun h => absurd h (by decide)) (fun h => absurd h (by decide))
theorem qo_1_55 : qm_peOK qm_G qm_cnm RX2 55 (.inr (.inl (false, mX2_placeOf))) := ⟨qw_803, qw_808, qw_84, by decide +kernel, ⟨by decide +kernel, by decide +kernel⟩, by decide +kernel, rfl, by decide, (fun h => by cases h), (fun _ => ⟨qw_801, qw_802, _, _, rfl⟩)⟩
set_option maxRecDepth 100000 in
theorem qm_pk1 : ∀ q ∈ qm_pl1, qm_peOK qm_G qm_cnm (qm_cnm 1) q.1 q.2 := List.forall_mem_cons.mpr ⟨qo_1_9, List.forall_mem_cons.mpr ⟨qo_1_15, List.forall_mem_cons.mpr ⟨qo_1_19, List.forall_mem_cons.mpr ⟨qo_1_24, List.forall_mem_cons.mpr ⟨qo_1_30, List.forall_mem_cons.mpr ⟨qo_1_34, List.forall_mem_cons.mpr ⟨qo_1_38, List.forall_mem_cons.mpr ⟨qo_1_44, List.forall_mem_cons.mpr ⟨qo_1_48, List.forall_mem_cons.mpr ⟨qo_1_51, List.forall_mem_cons.mpr ⟨qo_1_52, List.forall_mem_cons.mpr ⟨qo_1_55, fun _ h => absurd h List.not_mem_nil⟩⟩⟩⟩⟩⟩⟩⟩⟩⟩⟩⟩
theorem qo_2_9 : qm_peOK qm_G qm_cnm RX3 9 (.inl (2, 0, 2)) := qm_okF rfl (by decide) qw_165 qm_cl2 (fun h => absurd h (by decide)) (fun h => absurd h (by decide))
theorem qo_2_15 : qm_peOK qm_G qm_cnm RX3 15 (.inl (2, 1, 2)) := qm_okF rfl (by decide) qw_167 qm_cl2 (fun h => absurd h (by decide)) (fun h => absurd h (by decide))
theorem qo_2_18 : qm_peOK qm_G qm_cnm RX3 18 (.inl (2, 2, 2)) := qm_okF rfl (by decide) qw_169 qm_cl2 (fun h => absurd h (by decide)) (fun h => absurd h (by decide))
theorem qo_2_21 : qm_peOK qm_G qm_cnm RX3 21 (.inr (.inr (.inr (.inr 2)))) := ⟨qw_261, qw_263, qw_262, qw_81⟩
theorem qo_2_27 : qm_peOK qm_G qm_cnm RX3 27 (.inl (2, 3, 0)) := qm_okF rfl (by decide) qw_170 qm_cl2 (fun _ => ⟨rfl, rfl⟩) (fun h => absurd h (by decide))
theorem qo_2_31 : qm_peOK qm_G qm_cnm RX3 31 (.inl (2, 4, 0)) := qm_okF rfl (by decide) qw_171 qm_cl2 (fun _ => ⟨rfl, rfl⟩) (fun h => absurd h (by decide))
theorem qo_2_34 : qm_peOK qm_G qm_cnm RX3 34 (.inl (2, 5, 0)) := qm_okF rfl (by decide) qw_172 qm_cl2 (fun _ => ⟨rfl, rfl⟩) (fun h => absurd h (by decide))
theorem qo_2_37 : qm_peOK qm_G qm_cnm RX3 37 (.inl (2, 9, 0)) := qm_okF rfl (by decide) qw_176 qm_cl2 (fun _ => ⟨rfl, rfl⟩) (fun h => absurd h (by decide))
theorem qo_2_40 : qm_peOK qm_G qm_cnm RX3 40 (.inr (.inl (false, mX3_next))) := ⟨qw_267, qw_264, qw_76, by decide +kernel, ⟨by decide +kernel, by decide +kernel⟩, by decide +kernel, rfl, by decide, (fun h => by cases h), (fun _ => ⟨qw_266, qw_0, _, _, rfl⟩)⟩
theorem qo_2_43 : qm_peOK qm_G qm_cnm RX3 43 (.inr (.inl (false, mX3_expect))) := ⟨qw_313, qw_310, qw_76, by decide +kernel, ⟨by decide +kernel, by decide +kernel⟩, by decide +kernel, rfl, by decide, (fun h => by cases h), (fun _ => ⟨qw_312, qw_5, _, _, rfl⟩)⟩
theorem qo_2_47 : qm_peOK qm_G qm_cnm RX3 47 (.inr (.inl (false, mX3_readOr))) := ⟨qw_317, qw_314, qw_76, by decide +kernel, ⟨by decide +kernel, by decide +kernel⟩, by decide +kernel, rfl, by decide, (fun h => by cases h), (fun _ => ⟨qw_316, qw_6, _, _, rfl⟩)⟩
theorem qo_2_50 : qm_peOK qm_G qm_cnm RX3 50 (.inl (2, 7, 0)) := qm_okF rfl (by decide) qw_174 qm_cl2 (fun _ => ⟨rfl, rfl⟩) (fun h => absurd h (by decide))
theorem qo_2_53 : qm_peOK qm_G qm_cnm RX3 53 (.inr (.inl (false, mX3_fail))) := ⟨qw_299, qw_296, qw_76, by decide +kernel, ⟨by decide +kernel, by decide +kernel⟩, by decide +kernel, rfl, by decide, (fun h => by cases h), (fun _ => ⟨qw_298, qw_3, _, _, rfl⟩)⟩
theorem qo_2_56 : qm_peOK qm_G qm_cnm RX3 56 (.inl (2, 6, 0)) := qm_okF rfl (by decide) qw_173 qm_cl2 (fun _ => ⟨rfl, rfl⟩) (fun h => absurd h (by decide))
theorem qo_2_59 : qm_peOK qm_G qm_cnm RX3 59 (.inr (.inl (false, mX3_readAnd))) := ⟨qw_321, qw_318, qw_76, by decide +kernel, ⟨by decide +kernel, by decide +kernel⟩, by decide +kernel, rfl, by decide, (fun h => by cases h), (fun _ => ⟨qw_320, qw_7, _, _, rfl⟩)⟩
theorem qo_2_62 : qm_peOK qm_G qm_cnm RX3 62 (.inr (.inl (false, mX3_addStep))) := ⟨qw_333, qw_330, qw_76, by decide +kernel, ⟨by decide +kernel, by decide +kernel⟩, by decide +kernel, rfl, by decide, (fun h => by cases h), (fun _ => ⟨qw_332, qw_10, _, _, rfl⟩)⟩
theorem qo_2_65 : qm_peOK qm_G qm_cnm RX3 65 (.inr (.inl (false, mX3_readNot))) := ⟨qw_325, qw_322, qw_76, by decide +kernel, ⟨by decide +kernel, by decide +kernel⟩, by decide +kernel, rfl, by decide, (fun h => by cases h), (fun _ => ⟨qw_324, qw_8, _, _, rfl⟩)⟩
theorem qo_2_68 : qm_peOK qm_G qm_cnm RX3 68 (.inr (.inl (false, mX3_mayOpen))) := ⟨qw_329, qw_326, qw_76, by decide +kernel, ⟨by decide +kernel, by decide +kernel⟩, by decide +kernel, rfl, by decide, (fun h => by cases h), (fun _ => ⟨qw_328, qw_9, _, _, rfl⟩)⟩
theorem qo_2_72 : qm_peOK qm_G qm_cnm RX3 72 (.inr (.inl (false, mX3_readSum))) := ⟨qw_337, qw_334, qw_76, by decide +kernel, ⟨by decide +kernel, by decide +kernel⟩, by decide +kernel, rfl, by decide, (fun h => by cases h), (fun _ => ⟨qw_336, qw_11, _, _, rfl⟩)⟩
theorem qo_2_75 : qm_peOK qm_G qm_cnm RX3 75 (.inr (.inl (false, mX3_readTerm))) := ⟨qw_341, qw_338, qw_76, by decide +kernel, ⟨by decide +kernel, by decide +kernel⟩, by decide +kernel, rfl, by decide, (fun h => by cases h), (fun _ => ⟨qw_340, qw_12, _, _, rfl⟩)⟩
theorem qo_2_78 : qm_peOK qm_G qm_cnm RX3 78 (.inr (.inl (false, mX3_readOne))) := ⟨qw_345, qw_342, qw_76, by decide +kernel, ⟨by decide +kernel, by decide +kernel⟩, by decide +kernel, rfl, by decide, (fun h => by cases h), (fun _ => ⟨qw_344, qw_13, _, _, rfl⟩)⟩
theorem qo_2_81 : qm_peOK qm_G qm_cnm RX3 81 (.inl (2, 8, 0)) := qm_okF rfl (by decide) qw_175 qm_cl2 (fun _ => ⟨rfl, rfl⟩) (fun h => absurd h (by decide))
theorem qo_2_84 : qm_peOK qm_G qm_cnm RX3 84 (.inr (.inl (true, mX3_isLetter))) := ⟨qw_270, qw_268, qw_76, by decide +kernel, ⟨by decide +kernel, by decide +kernel⟩, by decide +kernel, rfl, by decide, (fun _ => qw_269), (fun h => by cases h)⟩
theorem qo_2_87 : qm_peOK qm_G qm_cnm RX3 87 (.inr (.inl (false, mX3_readWord))) := ⟨qw_274, qw_271, qw_76, by decide +kernel, ⟨by decide +kernel, by decide +kernel⟩, by decide +kernel, rfl, by decide, (fun h => by cases h), (fun _ => ⟨qw_273, qw_1, _, _, rfl⟩)⟩
theorem qo_2_90 : qm_peOK qm_G qm_cnm RX3 90 (.inr (.inl (true, mX3_isDigit))) := ⟨qw_302, qw_300, qw_76, by decide +kernel, ⟨by decide +kernel, by decide +kernel⟩, by decide +kernel, rfl, by decide, (fun _ => qw_301), (fun h => by cases h)⟩
theorem qo_2_93 : qm_peOK qm_G qm_cnm RX3 93 (.inr (.inl (false, mX3_readNumber))) := ⟨qw_306, qw_303, qw_76, by decide +kernel, ⟨by decide +kernel, by decide +kernel⟩, by decide +kernel, rfl, by decide, (fun h => by cases h), (fun _ => ⟨qw_305, qw_4, _, _, rfl⟩)⟩
theorem qo_2_96 : qm_peOK qm_G qm_cnm RX3 96 (.inr (.inl (true, mX3_isSign))) := ⟨qw_309, qw_307, qw_76, by decide +kernel, ⟨by decide +kernel, by decide +kernel⟩, by decide +kernel, rfl, by decide, (fun _ => qw_308), (fun h => by cases h)⟩
theorem qo_2_99 : qm_peOK qm_G qm_cnm RX3 99 (.inr (.inl (true, mX3_word))) := ⟨qw_277, qw_275, qw_76, by decide +kernel, ⟨by decide +kernel, by decide +kernel⟩, by decide +kernel, rfl, by decide, (fun _ => qw_276), (fun h => by cases h)⟩
theorem qo_2_103 : qm_peOK qm_G qm_cnm RX3 103 (.inr (.inl (false, mX3_standsAtPlace))) := ⟨qw_293, qw_290, qw_76, by decide +kernel, ⟨by decide +kernel, by decide +kernel⟩, by decide +kernel, rfl, by decide, (fun h => by cases h), (fun _ => ⟨qw_292, qw_2, _, _, rfl⟩)⟩
theorem qo_2_107 : qm_peOK qm_G qm_cnm RX3 107 (.inr (.inr (.inr (.inr 3)))) := ⟨qw_294, qw_202, qw_203, qw_204⟩
theorem qo_2_113 : qm_peOK qm_G qm_cnm RX3 113 (.inr (.inr (.inr (.inr 4)))) := ⟨qw_295, qw_212, qw_213, qw_214⟩
theorem qo_2_117 : qm_peOK qm_G qm_cnm RX3 117 (.inr (.inr (.inr (.inr 11)))) := ⟨by decide, by decide +kernel, by decide +kernel⟩
theorem qo_2_119 : qm_peOK qm_G qm_cnm RX3 119 (.inr (.inr (.inr (.inr 12)))) := ⟨by decide, by decide +kernel, by decide +kernel⟩
theorem qo_2_121 : qm_peOK qm_G qm_cnm RX3 121 (.inr (.inr (.inr (.inr 13)))) := ⟨by decide, by decide +kernel, by decide +kernel⟩
theorem qo_2_123 : qm_peOK qm_G qm_cnm RX3 123 (.inr (.inr (.inr (.inr 14)))) := ⟨by decide, by decide +kernel, by decide +kernel⟩
theorem qo_2_125 : qm_peOK qm_G qm_cnm RX3 125 (.inr (.inr (.inr (.inr 15)))) := ⟨by decide, by decide +kernel, by decide +kernel⟩
theorem qo_2_127 : qm_peOK qm_G qm_cnm RX3 127 (.inr (.inr (.inr (.inr 16)))) := ⟨by decide, by decide +kernel, by decide +kernel⟩
theorem qo_2_129 : qm_peOK qm_G qm_cnm RX3 129 (.inr (.inr (.inr (.inr 17)))) := ⟨by decide, by decide +kernel, by decide +kernel⟩
theorem qo_2_131 : qm_peOK qm_G qm_cnm RX3 131 (.inr (.inr (.inr (.inr 18)))) := ⟨by decide, by decide +kernel, by decide +kernel⟩
theorem qo_2_133 : qm_peOK qm_G qm_cnm RX3 133 (.inr (.inr (.inr (.inr 19)))) := ⟨by decide, by decide +kernel, by decide +kernel⟩
theorem qo_2_135 : qm_peOK qm_G qm_cnm RX3 135 (.inr (.inr (.inr (.inr 20)))) := ⟨by decide, by decide +kernel, by decide +kernel⟩
theorem qo_2_137 : qm_peOK qm_G qm_cnm RX3 137 (.inr (.inr (.inr (.inr 21)))) := ⟨by decide, by decide +kernel, by decide +kernel⟩
theorem qo_2_139 : qm_peOK qm_G qm_cnm RX3 139 (.inr (.inr (.inr (.inr 22)))) := ⟨by decide, by decide +kernel, by decide +kernel⟩
set_option maxRecDepth 100000 in
theorem qm_pk2 : ∀ q ∈ qm_pl2, qm_peOK qm_G qm_cnm (qm_cnm 2) q.1 q.2 := List.forall_mem_cons.mpr ⟨qo_2_9, List.forall_mem_cons.mpr ⟨qo_2_15, List.forall_mem_cons.mpr ⟨qo_2_18, List.forall_mem_cons.mpr ⟨qo_2_21, List.forall_mem_cons.mpr ⟨qo_2_27, List.forall_mem_cons.mpr ⟨qo_2_31, List.forall_mem_cons.mpr ⟨qo_2_34, List.forall_mem_cons.mpr ⟨qo_2_37, List.forall_mem_cons.mpr ⟨qo_2_40, List.forall_mem_cons.mpr ⟨qo_2_43, List.forall_mem_cons.mpr ⟨qo_2_47, List.forall_mem_cons.mpr ⟨qo_2_50, List.forall_mem_cons.mpr ⟨qo_2_53, List.forall_mem_cons.mpr ⟨qo_2_56, List.forall_mem_cons.mpr ⟨qo_2_59, List.forall_mem_cons.mpr ⟨qo_2_62, List.forall_mem_cons.mpr ⟨qo_2_65, List.forall_mem_cons.mpr ⟨qo_2_68, List.forall_mem_cons.mpr ⟨qo_2_72, List.forall_mem_cons.mpr ⟨qo_2_75, List.forall_mem_cons.mpr ⟨qo_2_78, List.forall_mem_cons.mpr ⟨qo_2_81, List.forall_mem_cons.mpr ⟨qo_2_84, List.forall_mem_cons.mpr ⟨qo_2_87, List.forall_mem_cons.mpr ⟨qo_2_90, List.forall_mem_cons.mpr ⟨qo_2_93, List.forall_mem_cons.mpr ⟨qo_2_96, List.forall_mem_cons.mpr ⟨qo_2_99, List.forall_mem_cons.mpr ⟨qo_2_103, List.forall_mem_cons.mpr ⟨qo_2_107, List.forall_mem_cons.mpr ⟨qo_2_113, List.forall_mem_cons.mpr ⟨qo_2_117, List.forall_mem_cons.mpr ⟨qo_2_119, List.forall_mem_cons.mpr ⟨qo_2_121, List.forall_mem_cons.mpr ⟨qo_2_123, List.forall_mem_cons.mpr ⟨qo_2_125, List.forall_mem_cons.mpr ⟨qo_2_127, List.forall_mem_cons.mpr ⟨qo_2_129, List.forall_mem_cons.mpr ⟨qo_2_131, List.forall_mem_cons.mpr ⟨qo_2_133, List.forall_mem_cons.mpr ⟨qo_2_135, List.forall_mem_cons.mpr ⟨qo_2_137, List.forall_mem_cons.mpr ⟨qo_2_139, fun _ h => absurd h List.not_mem_nil⟩⟩⟩⟩⟩⟩⟩⟩⟩⟩⟩⟩⟩⟩⟩⟩⟩⟩⟩⟩⟩⟩⟩⟩⟩⟩⟩⟩⟩⟩⟩⟩⟩⟩⟩⟩⟩⟩⟩⟩⟩⟩⟩
theorem qo_3_9 : qm_peOK qm_G qm_cnm RX4 9 (.inl (3, 0, 1)) := qm_okF rfl (by decide) qw_422 qm_cl3 (fun h => absurd h (by decide)) (fun _ => ⟨rfl, rfl⟩)
theorem qo_3_17 : qm_peOK qm_G qm_cnm RX4 17 (.inr (.inr (.inl (2147483647)))) := qw_697
theorem qo_3_18 : qm_peOK qm_G qm_cnm RX4 18 (.inl (3, 1, 0)) := qm_okF rfl (by decide) qw_423 qm_cl3 (fun _ => ⟨rfl, rfl⟩) (fun h => absurd h (by decide))
theorem qo_3_22 : qm_peOK qm_G qm_cnm RX4 22 (.inl (3, 2, 0)) := qm_okF rfl (by decide) qw_425 qm_cl3 (fun _ => ⟨rfl, rfl⟩) (fun h => absurd h (by decide))
theorem qo_3_25 : qm_peOK qm_G qm_cnm RX4 25 (.inr (.inl (false, mX7_unbuiltBits))) := ⟨qw_701, qw_698, qw_74, by decide +kernel, ⟨by decide +kernel, by decide +kernel⟩, by decide +kernel, rfl, by decide, (fun h => by cases h), (fun _ => ⟨qw_699, qw_700, _, _, rfl⟩)⟩
theorem qo_3_31 : qm_peOK qm_G qm_cnm RX4 31 (.inr (.inl (false, mX7_colourBits))) := ⟨qw_489, qw_702, qw_74, by decide +kernel, ⟨by decide +kernel, by decide +kernel⟩, by decide +kernel, rfl, by decide, (fun h => by cases h), (fun _ => ⟨qw_487, qw_488, _, _, rfl⟩)⟩
theorem qo_3_34 : qm_peOK qm_G qm_cnm RX4 34 (.inr (.inl (true, mX4_tryAll))) := ⟨qw_705, qw_703, qw_85, by decide +kernel, ⟨by decide +kernel, by decide +kernel⟩, by decide +kernel, rfl, by decide, (fun _ => qw_704), (fun h => by cases h)⟩
theorem qo_3_38 : qm_peOK qm_G qm_cnm RX4 38 (.inr (.inl (false, mX4_canBeBetter))) := ⟨qw_709, qw_706, qw_85, by decide +kernel, ⟨by decide +kernel, by decide +kernel⟩, by decide +kernel, rfl, by decide, (fun h => by cases h), (fun _ => ⟨qw_708, qw_17, _, _, rfl⟩)⟩
theorem qo_3_42 : qm_peOK qm_G qm_cnm RX4 42 (.inr (.inl (true, mJ6_bitCount_0f7a4))) := ⟨qw_500, qw_710, qw_88, by decide +kernel, ⟨by decide +kernel, by decide +kernel⟩, by decide +kernel, rfl, by decide, (fun _ => qw_499), (fun h => by cases h)⟩
theorem qo_3_46 : qm_peOK qm_G qm_cnm RX4 46 (.inl (6, 0, 0)) := qm_okF rfl (by decide) qw_109 qm_cl6 (fun _ => ⟨rfl, rfl⟩) (fun h => absurd h (by decide))
theorem qo_3_49 : qm_peOK qm_G qm_cnm RX4 49 (.inr (.inl (false, mX7_buildHouse))) := ⟨qw_590, qw_711, qw_74, by decide +kernel, ⟨by decide +kernel, by decide +kernel⟩, by decide +kernel, rfl, by decide, (fun h => by cases h), (fun _ => ⟨qw_588, qw_589, _, _, rfl⟩)⟩
theorem qo_3_52 : qm_peOK qm_G qm_cnm RX4 52 (.inr (.inl (false, mX7_clearLot))) := ⟨qw_632, qw_712, qw_74, by decide +kernel, ⟨by decide +kernel, by decide +kernel⟩, by decide +kernel, rfl, by decide, (fun h => by cases h), (fun _ => ⟨qw_630, qw_631, _, _, rfl⟩)⟩
set_option maxRecDepth 100000 in
theorem qm_pk3 : ∀ q ∈ qm_pl3, qm_peOK qm_G qm_cnm (qm_cnm 3) q.1 q.2 := List.forall_mem_cons.mpr ⟨qo_3_9, List.forall_mem_cons.mpr ⟨qo_3_17, List.forall_mem_cons.mpr ⟨qo_3_18, List.forall_mem_cons.mpr ⟨qo_3_22, List.forall_mem_cons.mpr ⟨qo_3_25, List.forall_mem_cons.mpr ⟨qo_3_31, List.forall_mem_cons.mpr ⟨qo_3_34, List.forall_mem_cons.mpr ⟨qo_3_38, List.forall_mem_cons.mpr ⟨qo_3_42, List.forall_mem_cons.mpr ⟨qo_3_46, List.forall_mem_cons.mpr ⟨qo_3_49, List.forall_mem_cons.mpr ⟨qo_3_52, fun _ h => absurd h List.not_mem_nil⟩⟩⟩⟩⟩⟩⟩⟩⟩⟩⟩⟩
theorem qo_4_11 : qm_peOK qm_G qm_cnm RX5 11 (.inl (4, 0, 2)) := qm_okF rfl (by decide) qw_385 qm_cl4 (fun h => absurd h (by decide)) (fun h => absurd h (by decide))
theorem qo_4_16 : qm_peOK qm_G qm_cnm RX5 16 (.inl (4, 1, 2)) := qm_okF rfl (by decide) qw_387 qm_cl4 (fun h => absurd h (by decide)) (fun h => absurd h (by decide))
theorem qo_4_20 : qm_peOK qm_G qm_cnm RX5 20 (.inl (4, 2, 2)) := qm_okF rfl (by decide) qw_390 qm_cl4 (fun h => absurd h (by decide)) (fun h => absurd h (by decide))
theorem qo_4_23 : qm_peOK qm_G qm_cnm RX5 23 (.inr (.inl (true, mJ7_fill_53178))) := ⟨qw_384, qw_382, qw_83, by decide +kernel, ⟨by decide +kernel, by decide +kernel⟩, by decide +kernel, rfl, by decide, (fun _ => qw_383), (fun h => by cases h)⟩
theorem qo_4_29 : qm_peOK qm_G qm_cnm RX5 29 (.inr (.inl (false, mX5_hasCell))) := ⟨qw_754, qw_751, qw_82, by decide +kernel, ⟨by decide +kernel, by decide +kernel⟩, by decide +kernel, rfl, by decide, (fun h => by cases h), (fun _ => ⟨qw_752, qw_753, _, _, rfl⟩)⟩
set_option maxRecDepth 100000 in
theorem qm_pk4 : ∀ q ∈ qm_pl4, qm_peOK qm_G qm_cnm (qm_cnm 4) q.1 q.2 := List.forall_mem_cons.mpr ⟨qo_4_11, List.forall_mem_cons.mpr ⟨qo_4_16, List.forall_mem_cons.mpr ⟨qo_4_20, List.forall_mem_cons.mpr ⟨qo_4_23, List.forall_mem_cons.mpr ⟨qo_4_29, fun _ h => absurd h List.not_mem_nil⟩⟩⟩⟩⟩
theorem qo_5_9 : qm_peOK qm_G qm_cnm RX6 9 (.inl (5, 2, 2)) := qm_okF rfl (by decide) qw_351 qm_cl5 (fun h => absurd h (by decide)) (fun h => absurd h (by decide))
theorem qo_5_18 : qm_peOK qm_G qm_cnm RX6 18 (.inl (5, 3, 2)) := qm_okF rfl (by decide) qw_352 qm_cl5 (fun h => absurd h (by decide)) (fun h => absurd h (by decide))
theorem qo_5_24 : qm_peOK qm_G qm_cnm RX6 24 (.inl (5, 4, 2)) := qm_okF rfl (by decide) qw_353 qm_cl5 (fun h => absurd h (by decide)) (fun h => absurd h (by decide))
theorem qo_5_27 : qm_peOK qm_G qm_cnm RX6 27 (.inl (5, 5, 2)) := qm_okF rfl (by decide) qw_354 qm_cl5 (fun h => absurd h (by decide)) (fun h => absurd h (by decide))
theorem qo_5_30 : qm_peOK qm_G qm_cnm RX6 30 (.inl (5, 6, 2)) := qm_okF rfl (by decide) qw_355 qm_cl5 (fun h => absurd h (by decide)) (fun h => absurd h (by decide))
theorem qo_5_33 : qm_peOK qm_G qm_cnm RX6 33 (.inl (5, 7, 2)) := qm_okF rfl (by decide) qw_356 qm_cl5 (fun h => absurd h (by decide)) (fun h => absurd h (by decide))
theorem qo_5_36 : qm_peOK qm_G qm_cnm RX6 36 (.inr (.inr (.inr (.inr 10)))) := ⟨by decide, by decide +kernel, by decide +kernel⟩
theorem qo_5_38 : qm_peOK qm_G qm_cnm RX6 38 (.inr (.inr (.inr (.inr 3)))) := ⟨qw_201, qw_202, qw_203, qw_204⟩
theorem qo_5_44 : qm_peOK qm_G qm_cnm RX6 44 (.inr (.inr (.inr (.inr 4)))) := ⟨qw_211, qw_212, qw_213, qw_214⟩
theorem qo_5_48 : qm_peOK qm_G qm_cnm RX6 48 (.inr (.inl (false, mX6_addByte))) := ⟨qw_252, qw_249, qw_75, by decide +kernel, ⟨by decide +kernel, by decide +kernel⟩, by decide +kernel, rfl, by decide, (fun h => by cases h), (fun _ => ⟨qw_250, qw_251, _, _, rfl⟩)⟩
theorem qo_5_52 : qm_peOK qm_G qm_cnm RX6 52 (.inr (.inl (false, mX6_readTape))) := ⟨qw_256, qw_253, qw_75, by decide +kernel, ⟨by decide +kernel, by decide +kernel⟩, by decide +kernel, rfl, by decide, (fun h => by cases h), (fun _ => ⟨qw_254, qw_255, _, _, rfl⟩)⟩
theorem qo_5_55 : qm_peOK qm_G qm_cnm RX6 55 (.inl (5, 1, 0)) := qm_okF rfl (by decide) qw_349 qm_cl5 (fun _ => ⟨rfl, rfl⟩) (fun h => absurd h (by decide))
theorem qo_5_59 : qm_peOK qm_G qm_cnm RX6 59 (.inr (.inl (false, mX3_read))) := ⟨qw_260, qw_257, qw_76, by decide +kernel, ⟨by decide +kernel, by decide +kernel⟩, by decide +kernel, rfl, by decide, (fun h => by cases h), (fun _ => ⟨qw_258, qw_259, _, _, rfl⟩)⟩
theorem qo_5_63 : qm_peOK qm_G qm_cnm RX6 63 (.inl (5, 0, 0)) := qm_okF rfl (by decide) qw_348 qm_cl5 (fun _ => ⟨rfl, rfl⟩) (fun h => absurd h (by decide))
theorem qo_5_66 : qm_peOK qm_G qm_cnm RX6 66 (.inl (2, 0, 2)) := qm_okF rfl (by decide) qw_166 qm_cl2 (fun h => absurd h (by decide)) (fun h => absurd h (by decide))
theorem qo_5_69 : qm_peOK qm_G qm_cnm RX6 69 (.inr (.inr (.inr (.inr 2)))) := ⟨qw_346, qw_263, qw_262, qw_81⟩
theorem qo_5_75 : qm_peOK qm_G qm_cnm RX6 75 (.inl (2, 1, 2)) := qm_okF rfl (by decide) qw_168 qm_cl2 (fun h => absurd h (by decide)) (fun h => absurd h (by decide))
theorem qo_5_77 : qm_peOK qm_G qm_cnm RX6 77 (.inl (6, 1, 0)) := qm_okF rfl (by decide) qw_113 qm_cl6 (fun _ => ⟨rfl, rfl⟩) (fun h => absurd h (by decide))
theorem qo_5_82 : qm_peOK qm_G qm_cnm RX6 82 (.inr (.inl (false, mX7_hasLot))) := ⟨qw_497, qw_537, qw_74, by decide +kernel, ⟨by decide +kernel, by decide +kernel⟩, by decide +kernel, rfl, by decide, (fun h => by cases h), (fun _ => ⟨qw_495, qw_496, _, _, rfl⟩)⟩
theorem qo_5_86 : qm_peOK qm_G qm_cnm RX6 86 (.inl (6, 6, 2)) := qm_okF rfl (by decide) qw_123 qm_cl6 (fun h => absurd h (by decide)) (fun h => absurd h (by decide))
theorem qo_5_89 : qm_peOK qm_G qm_cnm RX6 89 (.inr (.inl (true, mJ6_bitCount_0f7a4))) := ⟨qw_500, qw_538, qw_88, by decide +kernel, ⟨by decide +kernel, by decide +kernel⟩, by decide +kernel, rfl, by decide, (fun _ => qw_499), (fun h => by cases h)⟩
theorem qo_5_95 : qm_peOK qm_G qm_cnm RX6 95 (.inl (6, 5, 2)) := qm_okF rfl (by decide) qw_120 qm_cl6 (fun h => absurd h (by decide)) (fun h => absurd h (by decide))
theorem qo_5_98 : qm_peOK qm_G qm_cnm RX6 98 (.inl (6, 0, 0)) := qm_okF rfl (by decide) qw_110 qm_cl6 (fun _ => ⟨rfl, rfl⟩) (fun h => absurd h (by decide))
theorem qo_5_101 : qm_peOK qm_G qm_cnm RX6 101 (.inr (.inl (false, mX6_valueOf))) := ⟨qw_542, qw_539, qw_75, by decide +kernel, ⟨by decide +kernel, by decide +kernel⟩, by decide +kernel, rfl, by decide, (fun h => by cases h), (fun _ => ⟨qw_541, qw_14, _, _, rfl⟩)⟩
theorem qo_5_105 : qm_peOK qm_G qm_cnm RX6 105 (.inr (.inr (.inr (.inr 0)))) := ⟨qw_552, qw_553, qw_89, qw_554⟩
theorem qo_5_111 : qm_peOK qm_G qm_cnm RX6 111 (.inr (.inr (.inr (.inr 1)))) := ⟨qw_555, qw_556, qw_89, qw_557⟩
theorem qo_5_114 : qm_peOK qm_G qm_cnm RX6 114 (.inr (.inl (true, mX3_isUnary))) := ⟨qw_545, qw_543, qw_76, by decide +kernel, ⟨by decide +kernel, by decide +kernel⟩, by decide +kernel, rfl, by decide, (fun _ => qw_544), (fun h => by cases h)⟩
theorem qo_5_117 : qm_peOK qm_G qm_cnm RX6 117 (.inr (.inl (true, mX6_unary))) := ⟨qw_548, qw_546, qw_75, by decide +kernel, ⟨by decide +kernel, by decide +kernel⟩, by decide +kernel, rfl, by decide, (fun _ => qw_547), (fun h => by cases h)⟩
theorem qo_5_120 : qm_peOK qm_G qm_cnm RX6 120 (.inr (.inl (true, mX6_binary))) := ⟨qw_551, qw_549, qw_75, by decide +kernel, ⟨by decide +kernel, by decide +kernel⟩, by decide +kernel, rfl, by decide, (fun _ => qw_550), (fun h => by cases h)⟩
set_option maxRecDepth 100000 in
theorem qm_pk5 : ∀ q ∈ qm_pl5, qm_peOK qm_G qm_cnm (qm_cnm 5) q.1 q.2 := List.forall_mem_cons.mpr ⟨qo_5_9, List.forall_mem_cons.mpr ⟨qo_5_18, List.forall_mem_cons.mpr ⟨qo_5_24, List.forall_mem_cons.mpr ⟨qo_5_27, List.forall_mem_cons.mpr ⟨qo_5_30, List.forall_mem_cons.mpr ⟨qo_5_33, List.forall_mem_cons.mpr ⟨qo_5_36, List.forall_mem_cons.mpr ⟨qo_5_38, List.forall_mem_cons.mpr ⟨qo_5_44, List.forall_mem_cons.mpr ⟨qo_5_48, List.forall_mem_cons.mpr ⟨qo_5_52, List.forall_mem_cons.mpr ⟨qo_5_55, List.forall_mem_cons.mpr ⟨qo_5_59, List.forall_mem_cons.mpr ⟨qo_5_63, List.forall_mem_cons.mpr ⟨qo_5_66, List.forall_mem_cons.mpr ⟨qo_5_69, List.forall_mem_cons.mpr ⟨qo_5_75, List.forall_mem_cons.mpr ⟨qo_5_77, List.forall_mem_cons.mpr ⟨qo_5_82, List.forall_mem_cons.mpr ⟨qo_5_86, List.forall_mem_cons.mpr ⟨qo_5_89, List.forall_mem_cons.mpr ⟨qo_5_95, List.forall_mem_cons.mpr ⟨qo_5_98, List.forall_mem_cons.mpr ⟨qo_5_101, List.forall_mem_cons.mpr ⟨qo_5_105, List.forall_mem_cons.mpr ⟨qo_5_111, List.forall_mem_cons.mpr ⟨qo_5_114, List.forall_mem_cons.mpr ⟨qo_5_117, List.forall_mem_cons.mpr ⟨qo_5_120, fun _ h => absurd h List.not_mem_nil⟩⟩⟩⟩⟩⟩⟩⟩⟩⟩⟩⟩⟩⟩⟩⟩⟩⟩⟩⟩⟩⟩⟩⟩⟩⟩⟩⟩⟩
theorem qo_6_9 : qm_peOK qm_G qm_cnm RX7 9 (.inl (6, 4, 2)) := qm_okF rfl (by decide) qw_117 qm_cl6 (fun h => absurd h (by decide)) (fun h => absurd h (by decide))
theorem qo_6_15 : qm_peOK qm_G qm_cnm RX7 15 (.inl (6, 5, 2)) := qm_okF rfl (by decide) qw_119 qm_cl6 (fun h => absurd h (by decide)) (fun h => absurd h (by decide))
theorem qo_6_18 : qm_peOK qm_G qm_cnm RX7 18 (.inl (6, 6, 2)) := qm_okF rfl (by decide) qw_122 qm_cl6 (fun h => absurd h (by decide)) (fun h => absurd h (by decide))
theorem qo_6_21 : qm_peOK qm_G qm_cnm RX7 21 (.inl (6, 7, 2)) := qm_okF rfl (by decide) qw_127 qm_cl6 (fun h => absurd h (by decide)) (fun h => absurd h (by decide))
theorem qo_6_24 : qm_peOK qm_G qm_cnm RX7 24 (.inl (6, 8, 2)) := qm_okF rfl (by decide) qw_130 qm_cl6 (fun h => absurd h (by decide)) (fun h => absurd h (by decide))
theorem qo_6_27 : qm_peOK qm_G qm_cnm RX7 27 (.inl (6, 0, 0)) := qm_okF rfl (by decide) qw_105 qm_cl6 (fun _ => ⟨rfl, rfl⟩) (fun h => absurd h (by decide))
theorem qo_6_31 : qm_peOK qm_G qm_cnm RX7 31 (.inl (6, 1, 0)) := qm_okF rfl (by decide) qw_111 qm_cl6 (fun _ => ⟨rfl, rfl⟩) (fun h => absurd h (by decide))
theorem qo_6_34 : qm_peOK qm_G qm_cnm RX7 34 (.inl (6, 2, 0)) := qm_okF rfl (by decide) qw_114 qm_cl6 (fun _ => ⟨rfl, rfl⟩) (fun h => absurd h (by decide))
theorem qo_6_37 : qm_peOK qm_G qm_cnm RX7 37 (.inl (6, 3, 0)) := qm_okF rfl (by decide) qw_115 qm_cl6 (fun _ => ⟨rfl, rfl⟩) (fun h => absurd h (by decide))
theorem qo_6_40 : qm_peOK qm_G qm_cnm RX7 40 (.inr (.inr (.inr (.inr 2)))) := ⟨qw_688, qw_263, qw_262, qw_81⟩
theorem qo_6_46 : qm_peOK qm_G qm_cnm RX7 46 (.inr (.inl (false, mX7_hasLot))) := ⟨qw_497, qw_494, qw_74, by decide +kernel, ⟨by decide +kernel, by decide +kernel⟩, by decide +kernel, rfl, by decide, (fun h => by cases h), (fun _ => ⟨qw_495, qw_496, _, _, rfl⟩)⟩
theorem qo_6_50 : qm_peOK qm_G qm_cnm RX7 50 (.inr (.inl (false, mX7_isBuilt))) := ⟨qw_493, qw_490, qw_74, by decide +kernel, ⟨by decide +kernel, by decide +kernel⟩, by decide +kernel, rfl, by decide, (fun h => by cases h), (fun _ => ⟨qw_491, qw_492, _, _, rfl⟩)⟩
theorem qo_6_53 : qm_peOK qm_G qm_cnm RX7 53 (.inr (.inl (false, mX7_colourBits))) := ⟨qw_489, qw_486, qw_74, by decide +kernel, ⟨by decide +kernel, by decide +kernel⟩, by decide +kernel, rfl, by decide, (fun h => by cases h), (fun _ => ⟨qw_487, qw_488, _, _, rfl⟩)⟩
theorem qo_6_57 : qm_peOK qm_G qm_cnm RX7 57 (.inr (.inl (true, mJ6_bitCount_0f7a4))) := ⟨qw_500, qw_498, qw_88, by decide +kernel, ⟨by decide +kernel, by decide +kernel⟩, by decide +kernel, rfl, by decide, (fun _ => qw_499), (fun h => by cases h)⟩
theorem qo_6_63 : qm_peOK qm_G qm_cnm RX7 63 (.inr (.inl (false, mX7_join))) := ⟨qw_573, qw_570, qw_74, by decide +kernel, ⟨by decide +kernel, by decide +kernel⟩, by decide +kernel, rfl, by decide, (fun h => by cases h), (fun _ => ⟨qw_571, qw_572, _, _, rfl⟩)⟩
theorem qo_6_67 : qm_peOK qm_G qm_cnm RX7 67 (.inr (.inl (false, mX7_colourAmong))) := ⟨qw_598, qw_595, qw_74, by decide +kernel, ⟨by decide +kernel, by decide +kernel⟩, by decide +kernel, rfl, by decide, (fun h => by cases h), (fun _ => ⟨qw_596, qw_597, _, _, rfl⟩)⟩
theorem qo_6_71 : qm_peOK qm_G qm_cnm RX7 71 (.inr (.inl (true, mX7_colourByKind))) := ⟨qw_601, qw_599, qw_74, by decide +kernel, ⟨by decide +kernel, by decide +kernel⟩, by decide +kernel, rfl, by decide, (fun _ => qw_600), (fun h => by cases h)⟩
theorem qo_6_75 : qm_peOK qm_G qm_cnm RX7 75 (.inr (.inl (true, mX7_least))) := ⟨qw_604, qw_602, qw_74, by decide +kernel, ⟨by decide +kernel, by decide +kernel⟩, by decide +kernel, rfl, by decide, (fun _ => qw_603), (fun h => by cases h)⟩
theorem qo_6_78 : qm_peOK qm_G qm_cnm RX7 78 (.inr (.inl (true, mX7_aboveGreatest))) := ⟨qw_612, qw_610, qw_74, by decide +kernel, ⟨by decide +kernel, by decide +kernel⟩, by decide +kernel, rfl, by decide, (fun _ => qw_611), (fun h => by cases h)⟩
theorem qo_6_81 : qm_peOK qm_G qm_cnm RX7 81 (.inr (.inl (true, mJ6_numberOfTrailingZeros_0f7a4))) := ⟨qw_607, qw_605, qw_88, by decide +kernel, ⟨by decide +kernel, by decide +kernel⟩, by decide +kernel, rfl, by decide, (fun _ => qw_606), (fun h => by cases h)⟩
theorem qo_6_84 : qm_peOK qm_G qm_cnm RX7 84 (.inr (.inr (.inr (.inr 0)))) := ⟨qw_609, qw_553, qw_89, qw_554⟩
theorem qo_6_90 : qm_peOK qm_G qm_cnm RX7 90 (.inr (.inl (true, mJ6_numberOfLeadingZeros_0f7a4))) := ⟨qw_615, qw_613, qw_88, by decide +kernel, ⟨by decide +kernel, by decide +kernel⟩, by decide +kernel, rfl, by decide, (fun _ => qw_614), (fun h => by cases h)⟩
theorem qo_6_93 : qm_peOK qm_G qm_cnm RX7 93 (.inr (.inl (false, mX7_wouldTake))) := ⟨qw_594, qw_591, qw_74, by decide +kernel, ⟨by decide +kernel, by decide +kernel⟩, by decide +kernel, rfl, by decide, (fun h => by cases h), (fun _ => ⟨qw_592, qw_593, _, _, rfl⟩)⟩
theorem qo_6_96 : qm_peOK qm_G qm_cnm RX7 96 (.inr (.inl (false, mX7_putHouse))) := ⟨qw_619, qw_616, qw_74, by decide +kernel, ⟨by decide +kernel, by decide +kernel⟩, by decide +kernel, rfl, by decide, (fun h => by cases h), (fun _ => ⟨qw_617, qw_618, _, _, rfl⟩)⟩
theorem qo_6_99 : qm_peOK qm_G qm_cnm RX7 99 (.inl (1, 1, 0)) := qm_okF rfl (by decide) qw_410 qm_cl1 (fun _ => ⟨rfl, rfl⟩) (fun h => absurd h (by decide))
theorem qo_6_104 : qm_peOK qm_G qm_cnm RX7 104 (.inl (1, 0, 2)) := qm_okF rfl (by decide) qw_407 qm_cl1 (fun h => absurd h (by decide)) (fun h => absurd h (by decide))
theorem qo_6_106 : qm_peOK qm_G qm_cnm RX7 106 (.inr (.inl (false, mX7_buildHouse))) := ⟨qw_590, qw_763, qw_74, by decide +kernel, ⟨by decide +kernel, by decide +kernel⟩, by decide +kernel, rfl, by decide, (fun h => by cases h), (fun _ => ⟨qw_588, qw_589, _, _, rfl⟩)⟩
set_option maxRecDepth 100000 in
theorem qm_pk6 : ∀ q ∈ qm_pl6, qm_peOK qm_G qm_cnm (qm_cnm 6) q.1 q.2 := List.forall_mem_cons.mpr ⟨qo_6_9, List.forall_mem_cons.mpr ⟨qo_6_15, List.forall_mem_cons.mpr ⟨qo_6_18, List.forall_mem_cons.mpr ⟨qo_6_21, List.forall_mem_cons.mpr ⟨qo_6_24, List.forall_mem_cons.mpr ⟨qo_6_27, List.forall_mem_cons.mpr ⟨qo_6_31, List.forall_mem_cons.mpr ⟨qo_6_34, List.forall_mem_cons.mpr ⟨qo_6_37, List.forall_mem_cons.mpr ⟨qo_6_40, List.forall_mem_cons.mpr ⟨qo_6_46, List.forall_mem_cons.mpr ⟨qo_6_50, List.forall_mem_cons.mpr ⟨qo_6_53, List.forall_mem_cons.mpr ⟨qo_6_57, List.forall_mem_cons.mpr ⟨qo_6_63, List.forall_mem_cons.mpr ⟨qo_6_67, List.forall_mem_cons.mpr ⟨qo_6_71, List.forall_mem_cons.mpr ⟨qo_6_75, List.forall_mem_cons.mpr ⟨qo_6_78, List.forall_mem_cons.mpr ⟨qo_6_81, List.forall_mem_cons.mpr ⟨qo_6_84, List.forall_mem_cons.mpr ⟨qo_6_90, List.forall_mem_cons.mpr ⟨qo_6_93, List.forall_mem_cons.mpr ⟨qo_6_96, List.forall_mem_cons.mpr ⟨qo_6_99, List.forall_mem_cons.mpr ⟨qo_6_104, List.forall_mem_cons.mpr ⟨qo_6_106, fun _ h => absurd h List.not_mem_nil⟩⟩⟩⟩⟩⟩⟩⟩⟩⟩⟩⟩⟩⟩⟩⟩⟩⟩⟩⟩⟩⟩⟩⟩⟩⟩⟩
theorem qo_7_10 : qm_peOK qm_G qm_cnm RX8 10 (.inl (7, 0, 2)) := qm_okF rfl (by decide) qw_450 qm_cl7 (fun h => absurd h (by decide)) (fun h => absurd h (by decide))
theorem qo_7_16 : qm_peOK qm_G qm_cnm RX8 16 (.inl (7, 1, 2)) := qm_okF rfl (by decide) qw_451 qm_cl7 (fun h => absurd h (by decide)) (fun h => absurd h (by decide))
theorem qo_7_19 : qm_peOK qm_G qm_cnm RX8 19 (.inl (7, 2, 2)) := qm_okF rfl (by decide) qw_452 qm_cl7 (fun h => absurd h (by decide)) (fun h => absurd h (by decide))
theorem qo_7_22 : qm_peOK qm_G qm_cnm RX8 22 (.inl (7, 3, 1)) := qm_okF rfl (by decide) qw_453 qm_cl7 (fun h => absurd h (by decide)) (fun _ => ⟨rfl, rfl⟩)
theorem qo_7_29 : qm_peOK qm_G qm_cnm RX8 29 (.inl (7, 4, 2)) := qm_okF rfl (by decide) qw_454 qm_cl7 (fun h => absurd h (by decide)) (fun h => absurd h (by decide))
theorem qo_7_36 : qm_peOK qm_G qm_cnm RX8 36 (.inl (7, 5, 2)) := qm_okF rfl (by decide) qw_455 qm_cl7 (fun h => absurd h (by decide)) (fun h => absurd h (by decide))
theorem qo_7_43 : qm_peOK qm_G qm_cnm RX8 43 (.inl (7, 6, 2)) := qm_okF rfl (by decide) qw_456 qm_cl7 (fun h => absurd h (by decide)) (fun h => absurd h (by decide))
theorem qo_7_50 : qm_peOK qm_G qm_cnm RX8 50 (.inl (7, 7, 2)) := qm_okF rfl (by decide) qw_457 qm_cl7 (fun h => absurd h (by decide)) (fun h => absurd h (by decide))
theorem qo_7_57 : qm_peOK qm_G qm_cnm RX8 57 (.inl (7, 8, 2)) := qm_okF rfl (by decide) qw_458 qm_cl7 (fun h => absurd h (by decide)) (fun h => absurd h (by decide))
theorem qo_7_61 : qm_peOK qm_G qm_cnm RX8 61 (.inl (6, 0, 0)) := qm_okF rfl (by decide) qw_106 qm_cl6 (fun _ => ⟨rfl, rfl⟩) (fun h => absurd h (by decide))
theorem qo_7_65 : qm_peOK qm_G qm_cnm RX8 65 (.inl (6, 3, 0)) := qm_okF rfl (by decide) qw_116 qm_cl6 (fun _ => ⟨rfl, rfl⟩) (fun h => absurd h (by decide))
theorem qo_7_68 : qm_peOK qm_G qm_cnm RX8 68 (.inr (.inl (false, mX7_howManyColours))) := ⟨qw_485, qw_482, qw_74, by decide +kernel, ⟨by decide +kernel, by decide +kernel⟩, by decide +kernel, rfl, by decide, (fun h => by cases h), (fun _ => ⟨qw_483, qw_484, _, _, rfl⟩)⟩
theorem qo_7_72 : qm_peOK qm_G qm_cnm RX8 72 (.inr (.inl (false, mX7_pairsBeside))) := ⟨qw_507, qw_504, qw_74, by decide +kernel, ⟨by decide +kernel, by decide +kernel⟩, by decide +kernel, rfl, by decide, (fun h => by cases h), (fun _ => ⟨qw_505, qw_506, _, _, rfl⟩)⟩
theorem qo_7_75 : qm_peOK qm_G qm_cnm RX8 75 (.inl (5, 0, 0)) := qm_okF rfl (by decide) qw_347 qm_cl5 (fun _ => ⟨rfl, rfl⟩) (fun h => absurd h (by decide))
theorem qo_7_78 : qm_peOK qm_G qm_cnm RX8 78 (.inl (6, 1, 0)) := qm_okF rfl (by decide) qw_112 qm_cl6 (fun _ => ⟨rfl, rfl⟩) (fun h => absurd h (by decide))
theorem qo_7_81 : qm_peOK qm_G qm_cnm RX8 81 (.inl (5, 1, 0)) := qm_okF rfl (by decide) qw_350 qm_cl5 (fun _ => ⟨rfl, rfl⟩) (fun h => absurd h (by decide))
theorem qo_7_84 : qm_peOK qm_G qm_cnm RX8 84 (.inr (.inl (true, mX8_isByte))) := ⟨qw_514, qw_512, qw_73, by decide +kernel, ⟨by decide +kernel, by decide +kernel⟩, by decide +kernel, rfl, by decide, (fun _ => qw_513), (fun h => by cases h)⟩
theorem qo_7_88 : qm_peOK qm_G qm_cnm RX8 88 (.inr (.inl (false, mX6_addByte))) := ⟨qw_252, qw_515, qw_75, by decide +kernel, ⟨by decide +kernel, by decide +kernel⟩, by decide +kernel, rfl, by decide, (fun h => by cases h), (fun _ => ⟨qw_250, qw_251, _, _, rfl⟩)⟩
theorem qo_7_92 : qm_peOK qm_G qm_cnm RX8 92 (.inr (.inl (false, mX6_readTape))) := ⟨qw_256, qw_520, qw_75, by decide +kernel, ⟨by decide +kernel, by decide +kernel⟩, by decide +kernel, rfl, by decide, (fun h => by cases h), (fun _ => ⟨qw_254, qw_255, _, _, rfl⟩)⟩
theorem qo_7_95 : qm_peOK qm_G qm_cnm RX8 95 (.inr (.inl (false, mX7_hasLot))) := ⟨qw_497, qw_529, qw_74, by decide +kernel, ⟨by decide +kernel, by decide +kernel⟩, by decide +kernel, rfl, by decide, (fun h => by cases h), (fun _ => ⟨qw_495, qw_496, _, _, rfl⟩)⟩
theorem qo_7_98 : qm_peOK qm_G qm_cnm RX8 98 (.inr (.inl (true, mX8_isColour))) := ⟨qw_532, qw_530, qw_73, by decide +kernel, ⟨by decide +kernel, by decide +kernel⟩, by decide +kernel, rfl, by decide, (fun _ => qw_531), (fun h => by cases h)⟩
theorem qo_7_101 : qm_peOK qm_G qm_cnm RX8 101 (.inr (.inl (false, mX6_says))) := ⟨qw_536, qw_533, qw_75, by decide +kernel, ⟨by decide +kernel, by decide +kernel⟩, by decide +kernel, rfl, by decide, (fun h => by cases h), (fun _ => ⟨qw_534, qw_535, _, _, rfl⟩)⟩
theorem qo_7_105 : qm_peOK qm_G qm_cnm RX8 105 (.inr (.inl (false, mX7_fitsLot))) := ⟨qw_565, qw_562, qw_74, by decide +kernel, ⟨by decide +kernel, by decide +kernel⟩, by decide +kernel, rfl, by decide, (fun h => by cases h), (fun _ => ⟨qw_563, qw_564, _, _, rfl⟩)⟩
theorem qo_7_109 : qm_peOK qm_G qm_cnm RX8 109 (.inr (.inl (false, mX7_addLot))) := ⟨qw_569, qw_566, qw_74, by decide +kernel, ⟨by decide +kernel, by decide +kernel⟩, by decide +kernel, rfl, by decide, (fun h => by cases h), (fun _ => ⟨qw_567, qw_568, _, _, rfl⟩)⟩
theorem qo_7_113 : qm_peOK qm_G qm_cnm RX8 113 (.inl (6, 4, 2)) := qm_okF rfl (by decide) qw_118 qm_cl6 (fun h => absurd h (by decide)) (fun h => absurd h (by decide))
theorem qo_7_117 : qm_peOK qm_G qm_cnm RX8 117 (.inl (6, 5, 2)) := qm_okF rfl (by decide) qw_121 qm_cl6 (fun h => absurd h (by decide)) (fun h => absurd h (by decide))
theorem qo_7_120 : qm_peOK qm_G qm_cnm RX8 120 (.inl (6, 6, 2)) := qm_okF rfl (by decide) qw_126 qm_cl6 (fun h => absurd h (by decide)) (fun h => absurd h (by decide))
theorem qo_7_123 : qm_peOK qm_G qm_cnm RX8 123 (.inr (.inl (false, mX7_colourOf))) := ⟨qw_581, qw_578, qw_74, by decide +kernel, ⟨by decide +kernel, by decide +kernel⟩, by decide +kernel, rfl, by decide, (fun h => by cases h), (fun _ => ⟨qw_579, qw_580, _, _, rfl⟩)⟩
theorem qo_7_127 : qm_peOK qm_G qm_cnm RX8 127 (.inr (.inl (false, mX7_isBuilt))) := ⟨qw_493, qw_582, qw_74, by decide +kernel, ⟨by decide +kernel, by decide +kernel⟩, by decide +kernel, rfl, by decide, (fun h => by cases h), (fun _ => ⟨qw_491, qw_492, _, _, rfl⟩)⟩
theorem qo_7_130 : qm_peOK qm_G qm_cnm RX8 130 (.inl (6, 8, 2)) := qm_okF rfl (by decide) qw_132 qm_cl6 (fun h => absurd h (by decide)) (fun h => absurd h (by decide))
theorem qo_7_133 : qm_peOK qm_G qm_cnm RX8 133 (.inr (.inl (false, mX7_buildHouse))) := ⟨qw_590, qw_587, qw_74, by decide +kernel, ⟨by decide +kernel, by decide +kernel⟩, by decide +kernel, rfl, by decide, (fun h => by cases h), (fun _ => ⟨qw_588, qw_589, _, _, rfl⟩)⟩
theorem qo_7_136 : qm_peOK qm_G qm_cnm RX8 136 (.inr (.inl (false, mX7_wouldTake))) := ⟨qw_594, qw_624, qw_74, by decide +kernel, ⟨by decide +kernel, by decide +kernel⟩, by decide +kernel, rfl, by decide, (fun h => by cases h), (fun _ => ⟨qw_592, qw_593, _, _, rfl⟩)⟩
theorem qo_7_139 : qm_peOK qm_G qm_cnm RX8 139 (.inr (.inl (false, mX7_clearLot))) := ⟨qw_632, qw_629, qw_74, by decide +kernel, ⟨by decide +kernel, by decide +kernel⟩, by decide +kernel, rfl, by decide, (fun h => by cases h), (fun _ => ⟨qw_630, qw_631, _, _, rfl⟩)⟩
theorem qo_7_142 : qm_peOK qm_G qm_cnm RX8 142 (.inl (6, 7, 2)) := qm_okF rfl (by decide) qw_129 qm_cl6 (fun h => absurd h (by decide)) (fun h => absurd h (by decide))
theorem qo_7_145 : qm_peOK qm_G qm_cnm RX8 145 (.inr (.inl (false, mX7_putHouse))) := ⟨qw_619, qw_637, qw_74, by decide +kernel, ⟨by decide +kernel, by decide +kernel⟩, by decide +kernel, rfl, by decide, (fun h => by cases h), (fun _ => ⟨qw_617, qw_618, _, _, rfl⟩)⟩
theorem qo_7_149 : qm_peOK qm_G qm_cnm RX8 149 (.inr (.inl (false, mX8_refusalOfLane))) := ⟨qw_645, qw_642, qw_73, by decide +kernel, ⟨by decide +kernel, by decide +kernel⟩, by decide +kernel, rfl, by decide, (fun h => by cases h), (fun _ => ⟨qw_644, qw_15, _, _, rfl⟩)⟩
theorem qo_7_153 : qm_peOK qm_G qm_cnm RX8 153 (.inr (.inl (true, mX1_openLane))) := ⟨qw_656, qw_654, qw_90, by decide +kernel, ⟨by decide +kernel, by decide +kernel⟩, by decide +kernel, rfl, by decide, (fun _ => qw_655), (fun h => by cases h)⟩
theorem qo_7_159 : qm_peOK qm_G qm_cnm RX8 159 (.inr (.inl (false, mX7_hasTwoLots))) := ⟨qw_649, qw_646, qw_74, by decide +kernel, ⟨by decide +kernel, by decide +kernel⟩, by decide +kernel, rfl, by decide, (fun h => by cases h), (fun _ => ⟨qw_647, qw_648, _, _, rfl⟩)⟩
theorem qo_7_163 : qm_peOK qm_G qm_cnm RX8 163 (.inr (.inl (false, mX7_areBeside))) := ⟨qw_653, qw_650, qw_74, by decide +kernel, ⟨by decide +kernel, by decide +kernel⟩, by decide +kernel, rfl, by decide, (fun h => by cases h), (fun _ => ⟨qw_651, qw_652, _, _, rfl⟩)⟩
theorem qo_7_166 : qm_peOK qm_G qm_cnm RX8 166 (.inr (.inl (false, mX7_part))) := ⟨qw_675, qw_672, qw_74, by decide +kernel, ⟨by decide +kernel, by decide +kernel⟩, by decide +kernel, rfl, by decide, (fun h => by cases h), (fun _ => ⟨qw_673, qw_674, _, _, rfl⟩)⟩
theorem qo_7_169 : qm_peOK qm_G qm_cnm RX8 169 (.inr (.inl (false, mX8_movesInThought))) := ⟨qw_683, qw_680, qw_73, by decide +kernel, ⟨by decide +kernel, by decide +kernel⟩, by decide +kernel, rfl, by decide, (fun h => by cases h), (fun _ => ⟨qw_682, qw_16, _, _, rfl⟩)⟩
theorem qo_7_172 : qm_peOK qm_G qm_cnm RX8 172 (.inr (.inl (false, mX7_becomes))) := ⟨qw_687, qw_684, qw_74, by decide +kernel, ⟨by decide +kernel, by decide +kernel⟩, by decide +kernel, rfl, by decide, (fun h => by cases h), (fun _ => ⟨qw_685, qw_686, _, _, rfl⟩)⟩
theorem qo_7_176 : qm_peOK qm_G qm_cnm RX8 176 (.inr (.inl (false, mX4_run))) := ⟨qw_696, qw_693, qw_85, by decide +kernel, ⟨by decide +kernel, by decide +kernel⟩, by decide +kernel, rfl, by decide, (fun h => by cases h), (fun _ => ⟨qw_694, qw_695, _, _, rfl⟩)⟩
theorem qo_7_180 : qm_peOK qm_G qm_cnm RX8 180 (.inl (3, 1, 0)) := qm_okF rfl (by decide) qw_424 qm_cl3 (fun _ => ⟨rfl, rfl⟩) (fun h => absurd h (by decide))
theorem qo_7_183 : qm_peOK qm_G qm_cnm RX8 183 (.inl (3, 2, 0)) := qm_okF rfl (by decide) qw_426 qm_cl3 (fun _ => ⟨rfl, rfl⟩) (fun h => absurd h (by decide))
theorem qo_7_186 : qm_peOK qm_G qm_cnm RX8 186 (.inr (.inl (false, mX0_fewestColours))) := ⟨qw_720, qw_717, qw_86, by decide +kernel, ⟨by decide +kernel, by decide +kernel⟩, by decide +kernel, rfl, by decide, (fun h => by cases h), (fun _ => ⟨qw_718, qw_719, _, _, rfl⟩)⟩
theorem qo_7_190 : qm_peOK qm_G qm_cnm RX8 190 (.inr (.inl (false, mX7_unbuiltBits))) := ⟨qw_701, qw_730, qw_74, by decide +kernel, ⟨by decide +kernel, by decide +kernel⟩, by decide +kernel, rfl, by decide, (fun h => by cases h), (fun _ => ⟨qw_699, qw_700, _, _, rfl⟩)⟩
theorem qo_7_193 : qm_peOK qm_G qm_cnm RX8 193 (.inr (.inl (false, mX8_refusalOfOrder))) := ⟨qw_734, qw_731, qw_73, by decide +kernel, ⟨by decide +kernel, by decide +kernel⟩, by decide +kernel, rfl, by decide, (fun h => by cases h), (fun _ => ⟨qw_733, qw_18, _, _, rfl⟩)⟩
theorem qo_7_196 : qm_peOK qm_G qm_cnm RX8 196 (.inl (1, 1, 0)) := qm_okF rfl (by decide) qw_409 qm_cl1 (fun _ => ⟨rfl, rfl⟩) (fun h => absurd h (by decide))
theorem qo_7_197 : qm_peOK qm_G qm_cnm RX8 197 (.inr (.inl (false, mX7_buildFirst))) := ⟨qw_762, qw_759, qw_74, by decide +kernel, ⟨by decide +kernel, by decide +kernel⟩, by decide +kernel, rfl, by decide, (fun h => by cases h), (fun _ => ⟨qw_760, qw_761, _, _, rfl⟩)⟩
theorem qo_7_201 : qm_peOK qm_G qm_cnm RX8 201 (.inr (.inl (true, mX5_isSheet))) := ⟨qw_737, qw_735, qw_82, by decide +kernel, ⟨by decide +kernel, by decide +kernel⟩, by decide +kernel, rfl, by decide, (fun _ => qw_736), (fun h => by cases h)⟩
theorem qo_7_204 : qm_peOK qm_G qm_cnm RX8 204 (.inr (.inl (false, mX5_isMissing))) := ⟨qw_741, qw_738, qw_82, by decide +kernel, ⟨by decide +kernel, by decide +kernel⟩, by decide +kernel, rfl, by decide, (fun h => by cases h), (fun _ => ⟨qw_739, qw_740, _, _, rfl⟩)⟩
theorem qo_7_207 : qm_peOK qm_G qm_cnm RX8 207 (.inr (.inl (false, mX2_becomesSheet))) := ⟨qw_745, qw_742, qw_84, by decide +kernel, ⟨by decide +kernel, by decide +kernel⟩, by decide +kernel, rfl, by decide, (fun h => by cases h), (fun _ => ⟨qw_743, qw_744, _, _, rfl⟩)⟩
theorem qo_7_213 : qm_peOK qm_G qm_cnm RX8 213 (.inr (.inr (.inl (-2147483648)))) := qw_772
theorem qo_7_214 : qm_peOK qm_G qm_cnm RX8 214 (.inl (1, 0, 2)) := qm_okF rfl (by decide) qw_406 qm_cl1 (fun h => absurd h (by decide)) (fun h => absurd h (by decide))
theorem qo_7_216 : qm_peOK qm_G qm_cnm RX8 216 (.inr (.inl (false, mX2_becomesRule))) := ⟨qw_780, qw_777, qw_84, by decide +kernel, ⟨by decide +kernel, by decide +kernel⟩, by decide +kernel, rfl, by decide, (fun h => by cases h), (fun _ => ⟨qw_778, qw_779, _, _, rfl⟩)⟩
theorem qo_7_220 : qm_peOK qm_G qm_cnm RX8 220 (.inr (.inl (false, mX2_digits))) := ⟨qw_790, qw_787, qw_84, by decide +kernel, ⟨by decide +kernel, by decide +kernel⟩, by decide +kernel, rfl, by decide, (fun h => by cases h), (fun _ => ⟨qw_788, qw_789, _, _, rfl⟩)⟩
theorem qo_7_223 : qm_peOK qm_G qm_cnm RX8 223 (.inr (.inr (.inl (-100000)))) := qw_795
theorem qo_7_224 : qm_peOK qm_G qm_cnm RX8 224 (.inr (.inl (false, mX8_worthInOrder))) := ⟨qw_799, qw_796, qw_73, by decide +kernel, ⟨by decide +kernel, by decide +kernel⟩, by decide +kernel, rfl, by decide, (fun h => by cases h), (fun _ => ⟨qw_798, qw_20, _, _, rfl⟩)⟩
theorem qo_7_227 : qm_peOK qm_G qm_cnm RX8 227 (.inr (.inl (false, mX2_swap))) := ⟨qw_807, qw_804, qw_84, by decide +kernel, ⟨by decide +kernel, by decide +kernel⟩, by decide +kernel, rfl, by decide, (fun h => by cases h), (fun _ => ⟨qw_805, qw_806, _, _, rfl⟩)⟩
theorem qo_7_230 : qm_peOK qm_G qm_cnm RX8 230 (.inr (.inl (false, mX2_placeOf))) := ⟨qw_803, qw_800, qw_84, by decide +kernel, ⟨by decide +kernel, by decide +kernel⟩, by decide +kernel, rfl, by decide, (fun h => by cases h), (fun _ => ⟨qw_801, qw_802, _, _, rfl⟩)⟩
theorem qo_7_233 : qm_peOK qm_G qm_cnm RX8 233 (.inr (.inl (false, mX0_countOrders))) := ⟨qw_816, qw_813, qw_86, by decide +kernel, ⟨by decide +kernel, by decide +kernel⟩, by decide +kernel, rfl, by decide, (fun h => by cases h), (fun _ => ⟨qw_814, qw_815, _, _, rfl⟩)⟩
theorem qo_7_237 : qm_peOK qm_G qm_cnm RX8 237 (.inr (.inl (false, mX0_firstOrder))) := ⟨qw_821, qw_818, qw_86, by decide +kernel, ⟨by decide +kernel, by decide +kernel⟩, by decide +kernel, rfl, by decide, (fun h => by cases h), (fun _ => ⟨qw_819, qw_820, _, _, rfl⟩)⟩
theorem qo_7_240 : qm_peOK qm_G qm_cnm RX8 240 (.inr (.inl (false, mX8_refusalOfMap))) := ⟨qw_834, qw_831, qw_73, by decide +kernel, ⟨by decide +kernel, by decide +kernel⟩, by decide +kernel, rfl, by decide, (fun h => by cases h), (fun _ => ⟨qw_833, qw_21, _, _, rfl⟩)⟩
theorem qo_7_243 : qm_peOK qm_G qm_cnm RX8 243 (.inr (.inl (false, mX8_firstOtherwise))) := ⟨qw_838, qw_835, qw_73, by decide +kernel, ⟨by decide +kernel, by decide +kernel⟩, by decide +kernel, rfl, by decide, (fun h => by cases h), (fun _ => ⟨qw_837, qw_22, _, _, rfl⟩)⟩
theorem qo_7_246 : qm_peOK qm_G qm_cnm RX8 246 (.inl (4, 1, 2)) := qm_okF rfl (by decide) qw_389 qm_cl4 (fun h => absurd h (by decide)) (fun h => absurd h (by decide))
theorem qo_7_249 : qm_peOK qm_G qm_cnm RX8 249 (.inr (.inl (false, mX5_cellAt))) := ⟨qw_750, qw_839, qw_82, by decide +kernel, ⟨by decide +kernel, by decide +kernel⟩, by decide +kernel, rfl, by decide, (fun h => by cases h), (fun _ => ⟨qw_748, qw_749, _, _, rfl⟩)⟩
theorem qo_7_252 : qm_peOK qm_G qm_cnm RX8 252 (.inl (4, 0, 2)) := qm_okF rfl (by decide) qw_386 qm_cl4 (fun h => absurd h (by decide)) (fun h => absurd h (by decide))
theorem qo_7_256 : qm_peOK qm_G qm_cnm RX8 256 (.inr (.inl (false, mX5_makeRow))) := ⟨qw_851, qw_848, qw_82, by decide +kernel, ⟨by decide +kernel, by decide +kernel⟩, by decide +kernel, rfl, by decide, (fun h => by cases h), (fun _ => ⟨qw_849, qw_850, _, _, rfl⟩)⟩
theorem qo_7_260 : qm_peOK qm_G qm_cnm RX8 260 (.inr (.inl (false, mX5_putCell))) := ⟨qw_855, qw_852, qw_82, by decide +kernel, ⟨by decide +kernel, by decide +kernel⟩, by decide +kernel, rfl, by decide, (fun h => by cases h), (fun _ => ⟨qw_853, qw_854, _, _, rfl⟩)⟩
theorem qo_7_263 : qm_peOK qm_G qm_cnm RX8 263 (.inr (.inl (true, mX8_isSeed))) := ⟨qw_866, qw_864, qw_73, by decide +kernel, ⟨by decide +kernel, by decide +kernel⟩, by decide +kernel, rfl, by decide, (fun _ => qw_865), (fun h => by cases h)⟩
theorem qo_7_266 : qm_peOK qm_G qm_cnm RX8 266 (.inr (.inl (false, mX8_coloursDrawn))) := ⟨qw_871, qw_868, qw_73, by decide +kernel, ⟨by decide +kernel, by decide +kernel⟩, by decide +kernel, rfl, by decide, (fun h => by cases h), (fun _ => ⟨qw_870, qw_23, _, _, rfl⟩)⟩
theorem qo_7_269 : qm_peOK qm_G qm_cnm RX8 269 (.inr (.inr (.inl (99999)))) := qw_867
theorem qo_7_270 : qm_peOK qm_G qm_cnm RX8 270 (.inr (.inl (true, mJ6_bitCount_0f7a4))) := ⟨qw_500, qw_872, qw_88, by decide +kernel, ⟨by decide +kernel, by decide +kernel⟩, by decide +kernel, rfl, by decide, (fun _ => qw_499), (fun h => by cases h)⟩
theorem qo_7_273 : qm_peOK qm_G qm_cnm RX8 273 (.inr (.inr (.inr (.inl (48271))))) := qw_873
theorem qo_7_275 : qm_peOK qm_G qm_cnm RX8 275 (.inr (.inr (.inr (.inl (2147483647))))) := qw_874
theorem qo_7_277 : qm_peOK qm_G qm_cnm RX8 277 (.inr (.inl (false, mX7_unbuiltLot))) := ⟨qw_878, qw_875, qw_74, by decide +kernel, ⟨by decide +kernel, by decide +kernel⟩, by decide +kernel, rfl, by decide, (fun h => by cases h), (fun _ => ⟨qw_876, qw_877, _, _, rfl⟩)⟩
theorem qo_7_280 : qm_peOK qm_G qm_cnm RX8 280 (.inr (.inr (.inr (.inl (-4611686018427387904))))) := qw_883
theorem qo_7_282 : qm_peOK qm_G qm_cnm RX8 282 (.inr (.inl (true, mX8_commonDivisor))) := ⟨qw_886, qw_884, qw_73, by decide +kernel, ⟨by decide +kernel, by decide +kernel⟩, by decide +kernel, rfl, by decide, (fun _ => qw_885), (fun h => by cases h)⟩
theorem qo_7_285 : qm_peOK qm_G qm_cnm RX8 285 (.inr (.inl (false, mX5_hasCell))) := ⟨qw_754, qw_903, qw_82, by decide +kernel, ⟨by decide +kernel, by decide +kernel⟩, by decide +kernel, rfl, by decide, (fun h => by cases h), (fun _ => ⟨qw_752, qw_753, _, _, rfl⟩)⟩
theorem qo_7_288 : qm_peOK qm_G qm_cnm RX8 288 (.inl (4, 2, 2)) := qm_okF rfl (by decide) qw_391 qm_cl4 (fun h => absurd h (by decide)) (fun h => absurd h (by decide))
theorem qo_7_291 : qm_peOK qm_G qm_cnm RX8 291 (.inr (.inl (false, mX5_hasRange))) := ⟨qw_911, qw_908, qw_82, by decide +kernel, ⟨by decide +kernel, by decide +kernel⟩, by decide +kernel, rfl, by decide, (fun h => by cases h), (fun _ => ⟨qw_909, qw_910, _, _, rfl⟩)⟩
theorem qo_7_294 : qm_peOK qm_G qm_cnm RX8 294 (.inr (.inr (.inr (.inr 2)))) := ⟨qw_912, qw_263, qw_262, qw_81⟩
theorem qo_7_300 : qm_peOK qm_G qm_cnm RX8 300 (.inr (.inl (false, mX8_lot))) := ⟨qw_561, qw_917, qw_73, by decide +kernel, ⟨by decide +kernel, by decide +kernel⟩, by decide +kernel, rfl, by decide, (fun h => by cases h), (fun _ => ⟨qw_559, qw_560, _, _, rfl⟩)⟩
theorem qo_7_303 : qm_peOK qm_G qm_cnm RX8 303 (.inr (.inl (true, mX7_isOfKind))) := ⟨qw_924, qw_922, qw_74, by decide +kernel, ⟨by decide +kernel, by decide +kernel⟩, by decide +kernel, rfl, by decide, (fun _ => qw_923), (fun h => by cases h)⟩
set_option maxRecDepth 100000 in
theorem qm_pk7 : ∀ q ∈ qm_pl7, qm_peOK qm_G qm_cnm (qm_cnm 7) q.1 q.2 := List.forall_mem_cons.mpr ⟨qo_7_10, List.forall_mem_cons.mpr ⟨qo_7_16, List.forall_mem_cons.mpr ⟨qo_7_19, List.forall_mem_cons.mpr ⟨qo_7_22, List.forall_mem_cons.mpr ⟨qo_7_29, List.forall_mem_cons.mpr ⟨qo_7_36, List.forall_mem_cons.mpr ⟨qo_7_43, List.forall_mem_cons.mpr ⟨qo_7_50, List.forall_mem_cons.mpr ⟨qo_7_57, List.forall_mem_cons.mpr ⟨qo_7_61, List.forall_mem_cons.mpr ⟨qo_7_65, List.forall_mem_cons.mpr ⟨qo_7_68, List.forall_mem_cons.mpr ⟨qo_7_72, List.forall_mem_cons.mpr ⟨qo_7_75, List.forall_mem_cons.mpr ⟨qo_7_78, List.forall_mem_cons.mpr ⟨qo_7_81, List.forall_mem_cons.mpr ⟨qo_7_84, List.forall_mem_cons.mpr ⟨qo_7_88, List.forall_mem_cons.mpr ⟨qo_7_92, List.forall_mem_cons.mpr ⟨qo_7_95, List.forall_mem_cons.mpr ⟨qo_7_98, List.forall_mem_cons.mpr ⟨qo_7_101, List.forall_mem_cons.mpr ⟨qo_7_105, List.forall_mem_cons.mpr ⟨qo_7_109, List.forall_mem_cons.mpr ⟨qo_7_113, List.forall_mem_cons.mpr ⟨qo_7_117, List.forall_mem_cons.mpr ⟨qo_7_120, List.forall_mem_cons.mpr ⟨qo_7_123, List.forall_mem_cons.mpr ⟨qo_7_127, List.forall_mem_cons.mpr ⟨qo_7_130, List.forall_mem_cons.mpr ⟨qo_7_133, List.forall_mem_cons.mpr ⟨qo_7_136, List.forall_mem_cons.mpr ⟨qo_7_139, List.forall_mem_cons.mpr ⟨qo_7_142, List.forall_mem_cons.mpr ⟨qo_7_145, List.forall_mem_cons.mpr ⟨qo_7_149, List.forall_mem_cons.mpr ⟨qo_7_153, List.forall_mem_cons.mpr ⟨qo_7_159, List.forall_mem_cons.mpr ⟨qo_7_163, List.forall_mem_cons.mpr ⟨qo_7_166, List.forall_mem_cons.mpr ⟨qo_7_169, List.forall_mem_cons.mpr ⟨qo_7_172, List.forall_mem_cons.mpr ⟨qo_7_176, List.forall_mem_cons.mpr ⟨qo_7_180, List.forall_mem_cons.mpr ⟨qo_7_183, List.forall_mem_cons.mpr ⟨qo_7_186, List.forall_mem_cons.mpr ⟨qo_7_190, List.forall_mem_cons.mpr ⟨qo_7_193, List.forall_mem_cons.mpr ⟨qo_7_196, List.forall_mem_cons.mpr ⟨qo_7_197, List.forall_mem_cons.mpr ⟨qo_7_201, List.forall_mem_cons.mpr ⟨qo_7_204, List.forall_mem_cons.mpr ⟨qo_7_207, List.forall_mem_cons.mpr ⟨qo_7_213, List.forall_mem_cons.mpr ⟨qo_7_214, List.forall_mem_cons.mpr ⟨qo_7_216, List.forall_mem_cons.mpr ⟨qo_7_220, List.forall_mem_cons.mpr ⟨qo_7_223, List.forall_mem_cons.mpr ⟨qo_7_224, List.forall_mem_cons.mpr ⟨qo_7_227, List.forall_mem_cons.mpr ⟨qo_7_230, List.forall_mem_cons.mpr ⟨qo_7_233, List.forall_mem_cons.mpr ⟨qo_7_237, List.forall_mem_cons.mpr ⟨qo_7_240, List.forall_mem_cons.mpr ⟨qo_7_243, List.forall_mem_cons.mpr ⟨qo_7_246, List.forall_mem_cons.mpr ⟨qo_7_249, List.forall_mem_cons.mpr ⟨qo_7_252, List.forall_mem_cons.mpr ⟨qo_7_256, List.forall_mem_cons.mpr ⟨qo_7_260, List.forall_mem_cons.mpr ⟨qo_7_263, List.forall_mem_cons.mpr ⟨qo_7_266, List.forall_mem_cons.mpr ⟨qo_7_269, List.forall_mem_cons.mpr ⟨qo_7_270, List.forall_mem_cons.mpr ⟨qo_7_273, List.forall_mem_cons.mpr ⟨qo_7_275, List.forall_mem_cons.mpr ⟨qo_7_277, List.forall_mem_cons.mpr ⟨qo_7_280, List.forall_mem_cons.mpr ⟨qo_7_282, List.forall_mem_cons.mpr ⟨qo_7_285, List.forall_mem_cons.mpr ⟨qo_7_288, List.forall_mem_cons.mpr ⟨qo_7_291, List.forall_mem_cons.mpr ⟨qo_7_294, List.forall_mem_cons.mpr ⟨qo_7_300, List.forall_mem_cons.mpr ⟨qo_7_303, fun _ h => absurd h List.not_mem_nil⟩⟩⟩⟩⟩⟩⟩⟩⟩⟩⟩⟩⟩⟩⟩⟩⟩⟩⟩⟩⟩⟩⟩⟩⟩⟩⟩⟩⟩⟩⟩⟩⟩⟩⟩⟩⟩⟩⟩⟩⟩⟩⟩⟩⟩⟩⟩⟩⟩⟩⟩⟩⟩⟩⟩⟩⟩⟩⟩⟩⟩⟩⟩⟩⟩⟩⟩⟩⟩⟩⟩⟩⟩⟩⟩⟩⟩⟩⟩⟩⟩⟩⟩⟩⟩
theorem qo_8_7 : qm_peOK qm_G qm_cnm RX9 7 (.inl (8, 1, 2)) := qm_okF rfl (by decide) qw_979 qm_cl8 (fun h => absurd h (by decide)) (fun h => absurd h (by decide))
theorem qo_8_13 : qm_peOK qm_G qm_cnm RX9 13 (.inl (8, 2, 2)) := qm_okF rfl (by decide) qw_980 qm_cl8 (fun h => absurd h (by decide)) (fun h => absurd h (by decide))
theorem qo_8_16 : qm_peOK qm_G qm_cnm RX9 16 (.inl (8, 3, 2)) := qm_okF rfl (by decide) qw_981 qm_cl8 (fun h => absurd h (by decide)) (fun h => absurd h (by decide))
theorem qo_8_19 : qm_peOK qm_G qm_cnm RX9 19 (.inl (8, 4, 2)) := qm_okF rfl (by decide) qw_982 qm_cl8 (fun h => absurd h (by decide)) (fun h => absurd h (by decide))
theorem qo_8_22 : qm_peOK qm_G qm_cnm RX9 22 (.inl (8, 5, 2)) := qm_okF rfl (by decide) qw_983 qm_cl8 (fun h => absurd h (by decide)) (fun h => absurd h (by decide))
theorem qo_8_25 : qm_peOK qm_G qm_cnm RX9 25 (.inl (8, 7, 2)) := qm_okF rfl (by decide) qw_985 qm_cl8 (fun h => absurd h (by decide)) (fun h => absurd h (by decide))
theorem qo_8_28 : qm_peOK qm_G qm_cnm RX9 28 (.inl (8, 9, 2)) := qm_okF rfl (by decide) qw_987 qm_cl8 (fun h => absurd h (by decide)) (fun h => absurd h (by decide))
theorem qo_8_31 : qm_peOK qm_G qm_cnm RX9 31 (.inl (8, 10, 2)) := qm_okF rfl (by decide) qw_988 qm_cl8 (fun h => absurd h (by decide)) (fun h => absurd h (by decide))
theorem qo_8_34 : qm_peOK qm_G qm_cnm RX9 34 (.inl (8, 17, 2)) := qm_okF rfl (by decide) qw_995 qm_cl8 (fun h => absurd h (by decide)) (fun h => absurd h (by decide))
theorem qo_8_37 : qm_peOK qm_G qm_cnm RX9 37 (.inl (8, 18, 2)) := qm_okF rfl (by decide) qw_996 qm_cl8 (fun h => absurd h (by decide)) (fun h => absurd h (by decide))
theorem qo_8_40 : qm_peOK qm_G qm_cnm RX9 40 (.inl (8, 19, 2)) := qm_okF rfl (by decide) qw_997 qm_cl8 (fun h => absurd h (by decide)) (fun h => absurd h (by decide))
theorem qo_8_43 : qm_peOK qm_G qm_cnm RX9 43 (.inl (8, 20, 2)) := qm_okF rfl (by decide) qw_998 qm_cl8 (fun h => absurd h (by decide)) (fun h => absurd h (by decide))
theorem qo_8_46 : qm_peOK qm_G qm_cnm RX9 46 (.inl (8, 21, 2)) := qm_okF rfl (by decide) qw_999 qm_cl8 (fun h => absurd h (by decide)) (fun h => absurd h (by decide))
theorem qo_8_49 : qm_peOK qm_G qm_cnm RX9 49 (.inl (8, 26, 2)) := qm_okF rfl (by decide) qw_1004 qm_cl8 (fun h => absurd h (by decide)) (fun h => absurd h (by decide))
theorem qo_8_52 : qm_peOK qm_G qm_cnm RX9 52 (.inl (8, 27, 2)) := qm_okF rfl (by decide) qw_1005 qm_cl8 (fun h => absurd h (by decide)) (fun h => absurd h (by decide))
theorem qo_8_55 : qm_peOK qm_G qm_cnm RX9 55 (.inl (8, 31, 2)) := qm_okF rfl (by decide) qw_1009 qm_cl8 (fun h => absurd h (by decide)) (fun h => absurd h (by decide))
theorem qo_8_58 : qm_peOK qm_G qm_cnm RX9 58 (.inl (8, 32, 2)) := qm_okF rfl (by decide) qw_1010 qm_cl8 (fun h => absurd h (by decide)) (fun h => absurd h (by decide))
theorem qo_8_61 : qm_peOK qm_G qm_cnm RX9 61 (.inl (8, 33, 2)) := qm_okF rfl (by decide) qw_1011 qm_cl8 (fun h => absurd h (by decide)) (fun h => absurd h (by decide))
theorem qo_8_64 : qm_peOK qm_G qm_cnm RX9 64 (.inl (8, 35, 2)) := qm_okF rfl (by decide) qw_1013 qm_cl8 (fun h => absurd h (by decide)) (fun h => absurd h (by decide))
theorem qo_8_67 : qm_peOK qm_G qm_cnm RX9 67 (.inl (8, 37, 2)) := qm_okF rfl (by decide) qw_1015 qm_cl8 (fun h => absurd h (by decide)) (fun h => absurd h (by decide))
theorem qo_8_70 : qm_peOK qm_G qm_cnm RX9 70 (.inl (8, 8, 0)) := qm_okF rfl (by decide) qw_986 qm_cl8 (fun _ => ⟨rfl, rfl⟩) (fun h => absurd h (by decide))
theorem qo_8_74 : qm_peOK qm_G qm_cnm RX9 74 (.inr (.inl (false, mX9_text))) := ⟨qw_934, qw_931, qw_87, by decide +kernel, ⟨by decide +kernel, by decide +kernel⟩, by decide +kernel, rfl, by decide, (fun h => by cases h), (fun _ => ⟨qw_932, qw_933, _, _, rfl⟩)⟩
theorem qo_8_78 : qm_peOK qm_G qm_cnm RX9 78 (.inl (8, 0, 0)) := qm_okF rfl (by decide) qw_978 qm_cl8 (fun _ => ⟨rfl, rfl⟩) (fun h => absurd h (by decide))
theorem qo_8_81 : qm_peOK qm_G qm_cnm RX9 81 (.inr (.inl (true, mX9_in))) := ⟨qw_941, qw_939, qw_87, by decide +kernel, ⟨by decide +kernel, by decide +kernel⟩, by decide +kernel, rfl, by decide, (fun _ => qw_940), (fun h => by cases h)⟩
theorem qo_8_85 : qm_peOK qm_G qm_cnm RX9 85 (.inr (.inl (false, mX9_isLot))) := ⟨qw_1138, qw_1135, qw_87, by decide +kernel, ⟨by decide +kernel, by decide +kernel⟩, by decide +kernel, rfl, by decide, (fun h => by cases h), (fun _ => ⟨qw_1137, qw_37, _, _, rfl⟩)⟩
theorem qo_8_89 : qm_peOK qm_G qm_cnm RX9 89 (.inr (.inl (false, mX9_isBuilt))) := ⟨qw_1107, qw_1104, qw_87, by decide +kernel, ⟨by decide +kernel, by decide +kernel⟩, by decide +kernel, rfl, by decide, (fun h => by cases h), (fun _ => ⟨qw_1106, qw_34, _, _, rfl⟩)⟩
theorem qo_8_92 : qm_peOK qm_G qm_cnm RX9 92 (.inr (.inl (true, mX9_ones))) := ⟨qw_1114, qw_1112, qw_87, by decide +kernel, ⟨by decide +kernel, by decide +kernel⟩, by decide +kernel, rfl, by decide, (fun _ => qw_1113), (fun h => by cases h)⟩
theorem qo_8_96 : qm_peOK qm_G qm_cnm RX9 96 (.inr (.inl (false, mX9_builtSet))) := ⟨qw_1103, qw_1100, qw_87, by decide +kernel, ⟨by decide +kernel, by decide +kernel⟩, by decide +kernel, rfl, by decide, (fun h => by cases h), (fun _ => ⟨qw_1102, qw_33, _, _, rfl⟩)⟩
theorem qo_8_99 : qm_peOK qm_G qm_cnm RX9 99 (.inr (.inl (false, mX9_howMany))) := ⟨qw_1111, qw_1108, qw_87, by decide +kernel, ⟨by decide +kernel, by decide +kernel⟩, by decide +kernel, rfl, by decide, (fun h => by cases h), (fun _ => ⟨qw_1110, qw_35, _, _, rfl⟩)⟩
theorem qo_8_102 : qm_peOK qm_G qm_cnm RX9 102 (.inr (.inl (false, mX9_pairs))) := ⟨qw_1118, qw_1115, qw_87, by decide +kernel, ⟨by decide +kernel, by decide +kernel⟩, by decide +kernel, rfl, by decide, (fun h => by cases h), (fun _ => ⟨qw_1117, qw_36, _, _, rfl⟩)⟩
theorem qo_8_105 : qm_peOK qm_G qm_cnm RX9 105 (.inl (8, 11, 0)) := qm_okF rfl (by decide) qw_989 qm_cl8 (fun _ => ⟨rfl, rfl⟩) (fun h => absurd h (by decide))
theorem qo_8_108 : qm_peOK qm_G qm_cnm RX9 108 (.inl (8, 12, 0)) := qm_okF rfl (by decide) qw_990 qm_cl8 (fun _ => ⟨rfl, rfl⟩) (fun h => absurd h (by decide))
theorem qo_8_111 : qm_peOK qm_G qm_cnm RX9 111 (.inr (.inl (true, mX9_isByte))) := ⟨qw_1125, qw_1123, qw_87, by decide +kernel, ⟨by decide +kernel, by decide +kernel⟩, by decide +kernel, rfl, by decide, (fun _ => qw_1124), (fun h => by cases h)⟩
theorem qo_8_114 : qm_peOK qm_G qm_cnm RX9 114 (.inl (8, 22, 0)) := qm_okF rfl (by decide) qw_1000 qm_cl8 (fun _ => ⟨rfl, rfl⟩) (fun h => absurd h (by decide))
theorem qo_8_117 : qm_peOK qm_G qm_cnm RX9 117 (.inl (8, 23, 0)) := qm_okF rfl (by decide) qw_1001 qm_cl8 (fun _ => ⟨rfl, rfl⟩) (fun h => absurd h (by decide))
theorem qo_8_120 : qm_peOK qm_G qm_cnm RX9 120 (.inl (8, 24, 0)) := qm_okF rfl (by decide) qw_1002 qm_cl8 (fun _ => ⟨rfl, rfl⟩) (fun h => absurd h (by decide))
theorem qo_8_123 : qm_peOK qm_G qm_cnm RX9 123 (.inl (8, 25, 0)) := qm_okF rfl (by decide) qw_1003 qm_cl8 (fun _ => ⟨rfl, rfl⟩) (fun h => absurd h (by decide))
theorem qo_8_126 : qm_peOK qm_G qm_cnm RX9 126 (.inr (.inl (false, mX9_wordFrom))) := ⟨qw_945, qw_942, qw_87, by decide +kernel, ⟨by decide +kernel, by decide +kernel⟩, by decide +kernel, rfl, by decide, (fun h => by cases h), (fun _ => ⟨qw_944, qw_25, _, _, rfl⟩)⟩
theorem qo_8_130 : qm_peOK qm_G qm_cnm RX9 130 (.inl (8, 30, 0)) := qm_okF rfl (by decide) qw_1008 qm_cl8 (fun _ => ⟨rfl, rfl⟩) (fun h => absurd h (by decide))
theorem qo_8_133 : qm_peOK qm_G qm_cnm RX9 133 (.inl (8, 28, 0)) := qm_okF rfl (by decide) qw_1006 qm_cl8 (fun _ => ⟨rfl, rfl⟩) (fun h => absurd h (by decide))
theorem qo_8_136 : qm_peOK qm_G qm_cnm RX9 136 (.inr (.inl (true, mX9_rank))) := ⟨qw_961, qw_959, qw_87, by decide +kernel, ⟨by decide +kernel, by decide +kernel⟩, by decide +kernel, rfl, by decide, (fun _ => qw_960), (fun h => by cases h)⟩
theorem qo_8_139 : qm_peOK qm_G qm_cnm RX9 139 (.inl (8, 29, 0)) := qm_okF rfl (by decide) qw_1007 qm_cl8 (fun _ => ⟨rfl, rfl⟩) (fun h => absurd h (by decide))
theorem qo_8_142 : qm_peOK qm_G qm_cnm RX9 142 (.inr (.inl (false, mX9_puts))) := ⟨qw_954, qw_951, qw_87, by decide +kernel, ⟨by decide +kernel, by decide +kernel⟩, by decide +kernel, rfl, by decide, (fun h => by cases h), (fun _ => ⟨qw_953, qw_27, _, _, rfl⟩)⟩
theorem qo_8_146 : qm_peOK qm_G qm_cnm RX9 146 (.inr (.inl (false, mX9_holds))) := ⟨qw_969, qw_966, qw_87, by decide +kernel, ⟨by decide +kernel, by decide +kernel⟩, by decide +kernel, rfl, by decide, (fun h => by cases h), (fun _ => ⟨qw_968, qw_30, _, _, rfl⟩)⟩
theorem qo_8_149 : qm_peOK qm_G qm_cnm RX9 149 (.inr (.inl (false, mX9_unwinds))) := ⟨qw_958, qw_955, qw_87, by decide +kernel, ⟨by decide +kernel, by decide +kernel⟩, by decide +kernel, rfl, by decide, (fun h => by cases h), (fun _ => ⟨qw_957, qw_28, _, _, rfl⟩)⟩
theorem qo_8_152 : qm_peOK qm_G qm_cnm RX9 152 (.inr (.inl (false, mX9_next))) := ⟨qw_938, qw_935, qw_87, by decide +kernel, ⟨by decide +kernel, by decide +kernel⟩, by decide +kernel, rfl, by decide, (fun h => by cases h), (fun _ => ⟨qw_937, qw_24, _, _, rfl⟩)⟩
theorem qo_8_155 : qm_peOK qm_G qm_cnm RX9 155 (.inr (.inr (.inl (100000)))) := qw_950
theorem qo_8_156 : qm_peOK qm_G qm_cnm RX9 156 (.inr (.inl (false, mX9_opensOne))) := ⟨qw_965, qw_962, qw_87, by decide +kernel, ⟨by decide +kernel, by decide +kernel⟩, by decide +kernel, rfl, by decide, (fun h => by cases h), (fun _ => ⟨qw_964, qw_29, _, _, rfl⟩)⟩
theorem qo_8_159 : qm_peOK qm_G qm_cnm RX9 159 (.inr (.inl (false, mX9_signOf))) := ⟨qw_973, qw_970, qw_87, by decide +kernel, ⟨by decide +kernel, by decide +kernel⟩, by decide +kernel, rfl, by decide, (fun h => by cases h), (fun _ => ⟨qw_972, qw_31, _, _, rfl⟩)⟩
theorem qo_8_162 : qm_peOK qm_G qm_cnm RX9 162 (.inr (.inl (false, mX9_between))) := ⟨qw_977, qw_974, qw_87, by decide +kernel, ⟨by decide +kernel, by decide +kernel⟩, by decide +kernel, rfl, by decide, (fun h => by cases h), (fun _ => ⟨qw_976, qw_32, _, _, rfl⟩)⟩
theorem qo_8_165 : qm_peOK qm_G qm_cnm RX9 165 (.inr (.inl (false, mX9_eRead))) := ⟨qw_949, qw_946, qw_87, by decide +kernel, ⟨by decide +kernel, by decide +kernel⟩, by decide +kernel, rfl, by decide, (fun h => by cases h), (fun _ => ⟨qw_948, qw_26, _, _, rfl⟩)⟩
theorem qo_8_169 : qm_peOK qm_G qm_cnm RX9 169 (.inr (.inl (true, mX9_two))) := ⟨qw_1149, qw_1147, qw_87, by decide +kernel, ⟨by decide +kernel, by decide +kernel⟩, by decide +kernel, rfl, by decide, (fun _ => qw_1148), (fun h => by cases h)⟩
theorem qo_8_173 : qm_peOK qm_G qm_cnm RX9 173 (.inr (.inl (false, mX9_says))) := ⟨qw_1146, qw_1143, qw_87, by decide +kernel, ⟨by decide +kernel, by decide +kernel⟩, by decide +kernel, rfl, by decide, (fun h => by cases h), (fun _ => ⟨qw_1145, qw_39, _, _, rfl⟩)⟩
theorem qo_8_176 : qm_peOK qm_G qm_cnm RX9 176 (.inr (.inl (true, mX9_within))) := ⟨qw_1152, qw_1150, qw_87, by decide +kernel, ⟨by decide +kernel, by decide +kernel⟩, by decide +kernel, rfl, by decide, (fun _ => qw_1151), (fun h => by cases h)⟩
theorem qo_8_179 : qm_peOK qm_G qm_cnm RX9 179 (.inr (.inl (false, mX9_asksOf))) := ⟨qw_1142, qw_1139, qw_87, by decide +kernel, ⟨by decide +kernel, by decide +kernel⟩, by decide +kernel, rfl, by decide, (fun h => by cases h), (fun _ => ⟨qw_1141, qw_38, _, _, rfl⟩)⟩
theorem qo_8_183 : qm_peOK qm_G qm_cnm RX9 183 (.inr (.inl (false, mX9_all))) := ⟨qw_1160, qw_1157, qw_87, by decide +kernel, ⟨by decide +kernel, by decide +kernel⟩, by decide +kernel, rfl, by decide, (fun h => by cases h), (fun _ => ⟨qw_1159, qw_40, _, _, rfl⟩)⟩
theorem qo_8_186 : qm_peOK qm_G qm_cnm RX9 186 (.inr (.inl (false, mX9_areBeside))) := ⟨qw_1180, qw_1177, qw_87, by decide +kernel, ⟨by decide +kernel, by decide +kernel⟩, by decide +kernel, rfl, by decide, (fun h => by cases h), (fun _ => ⟨qw_1179, qw_43, _, _, rfl⟩)⟩
theorem qo_8_190 : qm_peOK qm_G qm_cnm RX9 190 (.inr (.inl (false, mX9_takenBeside))) := ⟨qw_1176, qw_1173, qw_87, by decide +kernel, ⟨by decide +kernel, by decide +kernel⟩, by decide +kernel, rfl, by decide, (fun h => by cases h), (fun _ => ⟨qw_1175, qw_42, _, _, rfl⟩)⟩
theorem qo_8_193 : qm_peOK qm_G qm_cnm RX9 193 (.inr (.inl (true, mX9_greatest))) := ⟨qw_1183, qw_1181, qw_87, by decide +kernel, ⟨by decide +kernel, by decide +kernel⟩, by decide +kernel, rfl, by decide, (fun _ => qw_1182), (fun h => by cases h)⟩
theorem qo_8_196 : qm_peOK qm_G qm_cnm RX9 196 (.inr (.inl (true, mX9_least))) := ⟨qw_1186, qw_1184, qw_87, by decide +kernel, ⟨by decide +kernel, by decide +kernel⟩, by decide +kernel, rfl, by decide, (fun _ => qw_1185), (fun h => by cases h)⟩
theorem qo_8_199 : qm_peOK qm_G qm_cnm RX9 199 (.inl (8, 6, 0)) := qm_okF rfl (by decide) qw_984 qm_cl8 (fun _ => ⟨rfl, rfl⟩) (fun h => absurd h (by decide))
theorem qo_8_202 : qm_peOK qm_G qm_cnm RX9 202 (.inr (.inl (false, mX9_wouldTake))) := ⟨qw_1172, qw_1169, qw_87, by decide +kernel, ⟨by decide +kernel, by decide +kernel⟩, by decide +kernel, rfl, by decide, (fun h => by cases h), (fun _ => ⟨qw_1171, qw_41, _, _, rfl⟩)⟩
theorem qo_8_205 : qm_peOK qm_G qm_cnm RX9 205 (.inr (.inl (false, mX9_builds))) := ⟨qw_1190, qw_1187, qw_87, by decide +kernel, ⟨by decide +kernel, by decide +kernel⟩, by decide +kernel, rfl, by decide, (fun h => by cases h), (fun _ => ⟨qw_1189, qw_44, _, _, rfl⟩)⟩
theorem qo_8_208 : qm_peOK qm_G qm_cnm RX9 208 (.inl (8, 34, 0)) := qm_okF rfl (by decide) qw_1012 qm_cl8 (fun _ => ⟨rfl, rfl⟩) (fun h => absurd h (by decide))
theorem qo_8_211 : qm_peOK qm_G qm_cnm RX9 211 (.inr (.inl (false, mX9_younger))) := ⟨qw_1222, qw_1219, qw_87, by decide +kernel, ⟨by decide +kernel, by decide +kernel⟩, by decide +kernel, rfl, by decide, (fun h => by cases h), (fun _ => ⟨qw_1221, qw_48, _, _, rfl⟩)⟩
theorem qo_8_214 : qm_peOK qm_G qm_cnm RX9 214 (.inr (.inl (false, mX9_movesOf))) := ⟨qw_1218, qw_1215, qw_87, by decide +kernel, ⟨by decide +kernel, by decide +kernel⟩, by decide +kernel, rfl, by decide, (fun h => by cases h), (fun _ => ⟨qw_1217, qw_47, _, _, rfl⟩)⟩
theorem qo_8_217 : qm_peOK qm_G qm_cnm RX9 217 (.inr (.inl (false, mX9_nextMoves))) := ⟨qw_1226, qw_1223, qw_87, by decide +kernel, ⟨by decide +kernel, by decide +kernel⟩, by decide +kernel, rfl, by decide, (fun h => by cases h), (fun _ => ⟨qw_1225, qw_49, _, _, rfl⟩)⟩
theorem qo_8_220 : qm_peOK qm_G qm_cnm RX9 220 (.inr (.inl (false, mX9_areTwo))) := ⟨qw_1210, qw_1207, qw_87, by decide +kernel, ⟨by decide +kernel, by decide +kernel⟩, by decide +kernel, rfl, by decide, (fun h => by cases h), (fun _ => ⟨qw_1209, qw_45, _, _, rfl⟩)⟩
theorem qo_8_223 : qm_peOK qm_G qm_cnm RX9 223 (.inr (.inl (false, mX9_lanes))) := ⟨qw_1214, qw_1211, qw_87, by decide +kernel, ⟨by decide +kernel, by decide +kernel⟩, by decide +kernel, rfl, by decide, (fun h => by cases h), (fun _ => ⟨qw_1213, qw_46, _, _, rfl⟩)⟩
theorem qo_8_226 : qm_peOK qm_G qm_cnm RX9 226 (.inr (.inl (false, mX9_keeps))) := ⟨qw_1242, qw_1239, qw_87, by decide +kernel, ⟨by decide +kernel, by decide +kernel⟩, by decide +kernel, rfl, by decide, (fun h => by cases h), (fun _ => ⟨qw_1241, qw_51, _, _, rfl⟩)⟩
theorem qo_8_229 : qm_peOK qm_G qm_cnm RX9 229 (.inr (.inl (false, mX9_laysBack))) := ⟨qw_1246, qw_1243, qw_87, by decide +kernel, ⟨by decide +kernel, by decide +kernel⟩, by decide +kernel, rfl, by decide, (fun h => by cases h), (fun _ => ⟨qw_1245, qw_52, _, _, rfl⟩)⟩
theorem qo_8_232 : qm_peOK qm_G qm_cnm RX9 232 (.inr (.inl (false, mX9_lanesThought))) := ⟨qw_1238, qw_1235, qw_87, by decide +kernel, ⟨by decide +kernel, by decide +kernel⟩, by decide +kernel, rfl, by decide, (fun h => by cases h), (fun _ => ⟨qw_1237, qw_50, _, _, rfl⟩)⟩
theorem qo_8_235 : qm_peOK qm_G qm_cnm RX9 235 (.inl (8, 36, 0)) := qm_okF rfl (by decide) qw_1014 qm_cl8 (fun _ => ⟨rfl, rfl⟩) (fun h => absurd h (by decide))
theorem qo_8_238 : qm_peOK qm_G qm_cnm RX9 238 (.inr (.inl (false, mX9_swapsRow))) := ⟨qw_1278, qw_1275, qw_87, by decide +kernel, ⟨by decide +kernel, by decide +kernel⟩, by decide +kernel, rfl, by decide, (fun h => by cases h), (fun _ => ⟨qw_1277, qw_59, _, _, rfl⟩)⟩
theorem qo_8_241 : qm_peOK qm_G qm_cnm RX9 241 (.inr (.inl (false, mX9_buildsRow))) := ⟨qw_1266, qw_1263, qw_87, by decide +kernel, ⟨by decide +kernel, by decide +kernel⟩, by decide +kernel, rfl, by decide, (fun h => by cases h), (fun _ => ⟨qw_1265, qw_56, _, _, rfl⟩)⟩
theorem qo_8_244 : qm_peOK qm_G qm_cnm RX9 244 (.inr (.inl (false, mX9_notBuilt))) := ⟨qw_1254, qw_1251, qw_87, by decide +kernel, ⟨by decide +kernel, by decide +kernel⟩, by decide +kernel, rfl, by decide, (fun h => by cases h), (fun _ => ⟨qw_1253, qw_53, _, _, rfl⟩)⟩
theorem qo_8_247 : qm_peOK qm_G qm_cnm RX9 247 (.inr (.inl (false, mX9_begins))) := ⟨qw_1258, qw_1255, qw_87, by decide +kernel, ⟨by decide +kernel, by decide +kernel⟩, by decide +kernel, rfl, by decide, (fun h => by cases h), (fun _ => ⟨qw_1257, qw_54, _, _, rfl⟩)⟩
theorem qo_8_250 : qm_peOK qm_G qm_cnm RX9 250 (.inr (.inl (false, mX9_manyByRow))) := ⟨qw_1262, qw_1259, qw_87, by decide +kernel, ⟨by decide +kernel, by decide +kernel⟩, by decide +kernel, rfl, by decide, (fun h => by cases h), (fun _ => ⟨qw_1261, qw_55, _, _, rfl⟩)⟩
theorem qo_8_253 : qm_peOK qm_G qm_cnm RX9 253 (.inr (.inl (false, mX9_rowDigits))) := ⟨qw_1270, qw_1267, qw_87, by decide +kernel, ⟨by decide +kernel, by decide +kernel⟩, by decide +kernel, rfl, by decide, (fun h => by cases h), (fun _ => ⟨qw_1269, qw_57, _, _, rfl⟩)⟩
theorem qo_8_256 : qm_peOK qm_G qm_cnm RX9 256 (.inr (.inl (false, mX9_nextRow))) := ⟨qw_1274, qw_1271, qw_87, by decide +kernel, ⟨by decide +kernel, by decide +kernel⟩, by decide +kernel, rfl, by decide, (fun h => by cases h), (fun _ => ⟨qw_1273, qw_58, _, _, rfl⟩)⟩
theorem qo_8_259 : qm_peOK qm_G qm_cnm RX9 259 (.inr (.inl (false, mX9_canPaint))) := ⟨qw_1286, qw_1283, qw_87, by decide +kernel, ⟨by decide +kernel, by decide +kernel⟩, by decide +kernel, rfl, by decide, (fun h => by cases h), (fun _ => ⟨qw_1285, qw_60, _, _, rfl⟩)⟩
theorem qo_8_262 : qm_peOK qm_G qm_cnm RX9 262 (.inr (.inl (false, mX9_readsRow))) := ⟨qw_1294, qw_1291, qw_87, by decide +kernel, ⟨by decide +kernel, by decide +kernel⟩, by decide +kernel, rfl, by decide, (fun h => by cases h), (fun _ => ⟨qw_1293, qw_61, _, _, rfl⟩)⟩
theorem qo_8_265 : qm_peOK qm_G qm_cnm RX9 265 (.inr (.inl (false, mX9_worthBehind))) := ⟨qw_1306, qw_1303, qw_87, by decide +kernel, ⟨by decide +kernel, by decide +kernel⟩, by decide +kernel, rfl, by decide, (fun h => by cases h), (fun _ => ⟨qw_1305, qw_62, _, _, rfl⟩)⟩
theorem qo_8_268 : qm_peOK qm_G qm_cnm RX9 268 (.inr (.inl (false, mX9_sortsRow))) := ⟨qw_1314, qw_1311, qw_87, by decide +kernel, ⟨by decide +kernel, by decide +kernel⟩, by decide +kernel, rfl, by decide, (fun h => by cases h), (fun _ => ⟨qw_1313, qw_63, _, _, rfl⟩)⟩
theorem qo_8_271 : qm_peOK qm_G qm_cnm RX9 271 (.inr (.inl (false, mX9_placeOf))) := ⟨qw_1327, qw_1324, qw_87, by decide +kernel, ⟨by decide +kernel, by decide +kernel⟩, by decide +kernel, rfl, by decide, (fun h => by cases h), (fun _ => ⟨qw_1326, qw_65, _, _, rfl⟩)⟩
theorem qo_8_274 : qm_peOK qm_G qm_cnm RX9 274 (.inr (.inr (.inl (-100000)))) := qw_1319
theorem qo_8_275 : qm_peOK qm_G qm_cnm RX9 275 (.inr (.inl (false, mX9_worthInRow))) := ⟨qw_1323, qw_1320, qw_87, by decide +kernel, ⟨by decide +kernel, by decide +kernel⟩, by decide +kernel, rfl, by decide, (fun h => by cases h), (fun _ => ⟨qw_1322, qw_64, _, _, rfl⟩)⟩
theorem qo_8_278 : qm_peOK qm_G qm_cnm RX9 278 (.inl (8, 38, 0)) := qm_okF rfl (by decide) qw_1016 qm_cl8 (fun _ => ⟨rfl, rfl⟩) (fun h => absurd h (by decide))
theorem qo_8_281 : qm_peOK qm_G qm_cnm RX9 281 (.inr (.inl (false, mX9_fitsRow))) := ⟨qw_1339, qw_1336, qw_87, by decide +kernel, ⟨by decide +kernel, by decide +kernel⟩, by decide +kernel, rfl, by decide, (fun h => by cases h), (fun _ => ⟨qw_1338, qw_67, _, _, rfl⟩)⟩
theorem qo_8_284 : qm_peOK qm_G qm_cnm RX9 284 (.inr (.inl (false, mX9_fittingRows))) := ⟨qw_1335, qw_1332, qw_87, by decide +kernel, ⟨by decide +kernel, by decide +kernel⟩, by decide +kernel, rfl, by decide, (fun h => by cases h), (fun _ => ⟨qw_1334, qw_66, _, _, rfl⟩)⟩
theorem qo_8_287 : qm_peOK qm_G qm_cnm RX9 287 (.inr (.inl (false, mX9_sheetWrong))) := ⟨qw_1351, qw_1348, qw_87, by decide +kernel, ⟨by decide +kernel, by decide +kernel⟩, by decide +kernel, rfl, by decide, (fun h => by cases h), (fun _ => ⟨qw_1350, qw_68, _, _, rfl⟩)⟩
theorem qo_8_290 : qm_peOK qm_G qm_cnm RX9 290 (.inr (.inl (false, mX9_unlike))) := ⟨qw_1355, qw_1352, qw_87, by decide +kernel, ⟨by decide +kernel, by decide +kernel⟩, by decide +kernel, rfl, by decide, (fun h => by cases h), (fun _ => ⟨qw_1354, qw_69, _, _, rfl⟩)⟩
theorem qo_8_293 : qm_peOK qm_G qm_cnm RX9 293 (.inr (.inl (false, mX9_isSoByRow))) := ⟨qw_1363, qw_1360, qw_87, by decide +kernel, ⟨by decide +kernel, by decide +kernel⟩, by decide +kernel, rfl, by decide, (fun h => by cases h), (fun _ => ⟨qw_1362, qw_70, _, _, rfl⟩)⟩
theorem qo_8_296 : qm_peOK qm_G qm_cnm RX9 296 (.inr (.inr (.inr (.inl (48271))))) := qw_1381
theorem qo_8_298 : qm_peOK qm_G qm_cnm RX9 298 (.inr (.inr (.inr (.inl (2147483647))))) := qw_1382
theorem qo_8_300 : qm_peOK qm_G qm_cnm RX9 300 (.inr (.inr (.inl (99999)))) := qw_1376
theorem qo_8_301 : qm_peOK qm_G qm_cnm RX9 301 (.inr (.inl (false, mX9_manyBy))) := ⟨qw_1380, qw_1377, qw_87, by decide +kernel, ⟨by decide +kernel, by decide +kernel⟩, by decide +kernel, rfl, by decide, (fun h => by cases h), (fun _ => ⟨qw_1379, qw_71, _, _, rfl⟩)⟩
theorem qo_8_304 : qm_peOK qm_G qm_cnm RX9 304 (.inr (.inr (.inr (.inl (-4611686018427387904))))) := qw_1387
theorem qo_8_306 : qm_peOK qm_G qm_cnm RX9 306 (.inr (.inl (true, mX9_lowest))) := ⟨qw_1390, qw_1388, qw_87, by decide +kernel, ⟨by decide +kernel, by decide +kernel⟩, by decide +kernel, rfl, by decide, (fun _ => qw_1389), (fun h => by cases h)⟩
theorem qo_8_310 : qm_peOK qm_G qm_cnm RX9 310 (.inl (8, 13, 1)) := qm_okF rfl (by decide) qw_991 qm_cl8 (fun h => absurd h (by decide)) (fun _ => ⟨rfl, rfl⟩)
theorem qo_8_314 : qm_peOK qm_G qm_cnm RX9 314 (.inl (8, 14, 0)) := qm_okF rfl (by decide) qw_992 qm_cl8 (fun _ => ⟨rfl, rfl⟩) (fun h => absurd h (by decide))
theorem qo_8_317 : qm_peOK qm_G qm_cnm RX9 317 (.inl (8, 15, 0)) := qm_okF rfl (by decide) qw_993 qm_cl8 (fun _ => ⟨rfl, rfl⟩) (fun h => absurd h (by decide))
theorem qo_8_320 : qm_peOK qm_G qm_cnm RX9 320 (.inl (8, 16, 0)) := qm_okF rfl (by decide) qw_994 qm_cl8 (fun _ => ⟨rfl, rfl⟩) (fun h => absurd h (by decide))
theorem qo_8_323 : qm_peOK qm_G qm_cnm RX9 323 (.inr (.inl (false, mX9_lot))) := ⟨qw_1156, qw_1415, qw_87, by decide +kernel, ⟨by decide +kernel, by decide +kernel⟩, by decide +kernel, rfl, by decide, (fun h => by cases h), (fun _ => ⟨qw_1154, qw_1155, _, _, rfl⟩)⟩
theorem qo_8_326 : qm_peOK qm_G qm_cnm RX9 326 (.inr (.inl (true, mX9_isUnder))) := ⟨qw_1422, qw_1420, qw_87, by decide +kernel, ⟨by decide +kernel, by decide +kernel⟩, by decide +kernel, rfl, by decide, (fun _ => qw_1421), (fun h => by cases h)⟩
set_option maxRecDepth 100000 in
theorem qm_pk8 : ∀ q ∈ qm_pl8, qm_peOK qm_G qm_cnm (qm_cnm 8) q.1 q.2 := List.forall_mem_cons.mpr ⟨qo_8_7, List.forall_mem_cons.mpr ⟨qo_8_13, List.forall_mem_cons.mpr ⟨qo_8_16, List.forall_mem_cons.mpr ⟨qo_8_19, List.forall_mem_cons.mpr ⟨qo_8_22, List.forall_mem_cons.mpr ⟨qo_8_25, List.forall_mem_cons.mpr ⟨qo_8_28, List.forall_mem_cons.mpr ⟨qo_8_31, List.forall_mem_cons.mpr ⟨qo_8_34, List.forall_mem_cons.mpr ⟨qo_8_37, List.forall_mem_cons.mpr ⟨qo_8_40, List.forall_mem_cons.mpr ⟨qo_8_43, List.forall_mem_cons.mpr ⟨qo_8_46, List.forall_mem_cons.mpr ⟨qo_8_49, List.forall_mem_cons.mpr ⟨qo_8_52, List.forall_mem_cons.mpr ⟨qo_8_55, List.forall_mem_cons.mpr ⟨qo_8_58, List.forall_mem_cons.mpr ⟨qo_8_61, List.forall_mem_cons.mpr ⟨qo_8_64, List.forall_mem_cons.mpr ⟨qo_8_67, List.forall_mem_cons.mpr ⟨qo_8_70, List.forall_mem_cons.mpr ⟨qo_8_74, List.forall_mem_cons.mpr ⟨qo_8_78, List.forall_mem_cons.mpr ⟨qo_8_81, List.forall_mem_cons.mpr ⟨qo_8_85, List.forall_mem_cons.mpr ⟨qo_8_89, List.forall_mem_cons.mpr ⟨qo_8_92, List.forall_mem_cons.mpr ⟨qo_8_96, List.forall_mem_cons.mpr ⟨qo_8_99, List.forall_mem_cons.mpr ⟨qo_8_102, List.forall_mem_cons.mpr ⟨qo_8_105, List.forall_mem_cons.mpr ⟨qo_8_108, List.forall_mem_cons.mpr ⟨qo_8_111, List.forall_mem_cons.mpr ⟨qo_8_114, List.forall_mem_cons.mpr ⟨qo_8_117, List.forall_mem_cons.mpr ⟨qo_8_120, List.forall_mem_cons.mpr ⟨qo_8_123, List.forall_mem_cons.mpr ⟨qo_8_126, List.forall_mem_cons.mpr ⟨qo_8_130, List.forall_mem_cons.mpr ⟨qo_8_133, List.forall_mem_cons.mpr ⟨qo_8_136, List.forall_mem_cons.mpr ⟨qo_8_139, List.forall_mem_cons.mpr ⟨qo_8_142, List.forall_mem_cons.mpr ⟨qo_8_146, List.forall_mem_cons.mpr ⟨qo_8_149, List.forall_mem_cons.mpr ⟨qo_8_152, List.forall_mem_cons.mpr ⟨qo_8_155, List.forall_mem_cons.mpr ⟨qo_8_156, List.forall_mem_cons.mpr ⟨qo_8_159, List.forall_mem_cons.mpr ⟨qo_8_162, List.forall_mem_cons.mpr ⟨qo_8_165, List.forall_mem_cons.mpr ⟨qo_8_169, List.forall_mem_cons.mpr ⟨qo_8_173, List.forall_mem_cons.mpr ⟨qo_8_176, List.forall_mem_cons.mpr ⟨qo_8_179, List.forall_mem_cons.mpr ⟨qo_8_183, List.forall_mem_cons.mpr ⟨qo_8_186, List.forall_mem_cons.mpr ⟨qo_8_190, List.forall_mem_cons.mpr ⟨qo_8_193, List.forall_mem_cons.mpr ⟨qo_8_196, List.forall_mem_cons.mpr ⟨qo_8_199, List.forall_mem_cons.mpr ⟨qo_8_202, List.forall_mem_cons.mpr ⟨qo_8_205, List.forall_mem_cons.mpr ⟨qo_8_208, List.forall_mem_cons.mpr ⟨qo_8_211, List.forall_mem_cons.mpr ⟨qo_8_214, List.forall_mem_cons.mpr ⟨qo_8_217, List.forall_mem_cons.mpr ⟨qo_8_220, List.forall_mem_cons.mpr ⟨qo_8_223, List.forall_mem_cons.mpr ⟨qo_8_226, List.forall_mem_cons.mpr ⟨qo_8_229, List.forall_mem_cons.mpr ⟨qo_8_232, List.forall_mem_cons.mpr ⟨qo_8_235, List.forall_mem_cons.mpr ⟨qo_8_238, List.forall_mem_cons.mpr ⟨qo_8_241, List.forall_mem_cons.mpr ⟨qo_8_244, List.forall_mem_cons.mpr ⟨qo_8_247, List.forall_mem_cons.mpr ⟨qo_8_250, List.forall_mem_cons.mpr ⟨qo_8_253, List.forall_mem_cons.mpr ⟨qo_8_256, List.forall_mem_cons.mpr ⟨qo_8_259, List.forall_mem_cons.mpr ⟨qo_8_262, List.forall_mem_cons.mpr ⟨qo_8_265, List.forall_mem_cons.mpr ⟨qo_8_268, List.forall_mem_cons.mpr ⟨qo_8_271, List.forall_mem_cons.mpr ⟨qo_8_274, List.forall_mem_cons.mpr ⟨qo_8_275, List.forall_mem_cons.mpr ⟨qo_8_278, List.forall_mem_cons.mpr ⟨qo_8_281, List.forall_mem_cons.mpr ⟨qo_8_284, List.forall_mem_cons.mpr ⟨qo_8_287, List.forall_mem_cons.mpr ⟨qo_8_290, List.forall_mem_cons.mpr ⟨qo_8_293, List.forall_mem_cons.mpr ⟨qo_8_296, List.forall_mem_cons.mpr ⟨qo_8_298, List.forall_mem_cons.mpr ⟨qo_8_300, List.forall_mem_cons.mpr ⟨qo_8_301, List.forall_mem_cons.mpr ⟨qo_8_304, List.forall_mem_cons.mpr ⟨qo_8_306, List.forall_mem_cons.mpr ⟨qo_8_310, List.forall_mem_cons.mpr ⟨qo_8_314, List.forall_mem_cons.mpr ⟨qo_8_317, List.forall_mem_cons.mpr ⟨qo_8_320, List.forall_mem_cons.mpr ⟨qo_8_323, List.forall_mem_cons.mpr ⟨qo_8_326, fun _ h => absurd h List.not_mem_nil⟩⟩⟩⟩⟩⟩⟩⟩⟩⟩⟩⟩⟩⟩⟩⟩⟩⟩⟩⟩⟩⟩⟩⟩⟩⟩⟩⟩⟩⟩⟩⟩⟩⟩⟩⟩⟩⟩⟩⟩⟩⟩⟩⟩⟩⟩⟩⟩⟩⟩⟩⟩⟩⟩⟩⟩⟩⟩⟩⟩⟩⟩⟩⟩⟩⟩⟩⟩⟩⟩⟩⟩⟩⟩⟩⟩⟩⟩⟩⟩⟩⟩⟩⟩⟩⟩⟩⟩⟩⟩⟩⟩⟩⟩⟩⟩⟩⟩⟩⟩⟩⟩⟩⟩⟩
theorem qo_9_9 : qm_peOK qm_G qm_cnm RX1 9 (.inr (.inl (false, mX7_join))) := ⟨qw_573, qw_657, qw_74, by decide +kernel, ⟨by decide +kernel, by decide +kernel⟩, by decide +kernel, rfl, by decide, (fun h => by cases h), (fun _ => ⟨qw_571, qw_572, _, _, rfl⟩)⟩
theorem qo_9_15 : qm_peOK qm_G qm_cnm RX1 15 (.inr (.inl (true, mX1_moverOf))) := ⟨qw_660, qw_658, qw_90, by decide +kernel, ⟨by decide +kernel, by decide +kernel⟩, by decide +kernel, rfl, by decide, (fun _ => qw_659), (fun h => by cases h)⟩
theorem qo_9_21 : qm_peOK qm_G qm_cnm RX1 21 (.inl (6, 7, 2)) := qm_okF rfl (by decide) qw_128 qm_cl6 (fun h => absurd h (by decide)) (fun h => absurd h (by decide))
theorem qo_9_25 : qm_peOK qm_G qm_cnm RX1 25 (.inr (.inl (false, mX7_wouldTake))) := ⟨qw_594, qw_663, qw_74, by decide +kernel, ⟨by decide +kernel, by decide +kernel⟩, by decide +kernel, rfl, by decide, (fun h => by cases h), (fun _ => ⟨qw_592, qw_593, _, _, rfl⟩)⟩
theorem qo_9_29 : qm_peOK qm_G qm_cnm RX1 29 (.inr (.inl (true, mX1_moverBeside))) := ⟨qw_666, qw_664, qw_90, by decide +kernel, ⟨by decide +kernel, by decide +kernel⟩, by decide +kernel, rfl, by decide, (fun _ => qw_665), (fun h => by cases h)⟩
theorem qo_9_33 : qm_peOK qm_G qm_cnm RX1 33 (.inl (6, 0, 0)) := qm_okF rfl (by decide) qw_108 qm_cl6 (fun _ => ⟨rfl, rfl⟩) (fun h => absurd h (by decide))
theorem qo_9_37 : qm_peOK qm_G qm_cnm RX1 37 (.inr (.inl (false, mX7_areBeside))) := ⟨qw_653, qw_667, qw_74, by decide +kernel, ⟨by decide +kernel, by decide +kernel⟩, by decide +kernel, rfl, by decide, (fun h => by cases h), (fun _ => ⟨qw_651, qw_652, _, _, rfl⟩)⟩
theorem qo_9_41 : qm_peOK qm_G qm_cnm RX1 41 (.inr (.inl (false, mX7_isBuilt))) := ⟨qw_493, qw_661, qw_74, by decide +kernel, ⟨by decide +kernel, by decide +kernel⟩, by decide +kernel, rfl, by decide, (fun h => by cases h), (fun _ => ⟨qw_491, qw_492, _, _, rfl⟩)⟩
theorem qo_9_45 : qm_peOK qm_G qm_cnm RX1 45 (.inl (6, 8, 2)) := qm_okF rfl (by decide) qw_131 qm_cl6 (fun h => absurd h (by decide)) (fun h => absurd h (by decide))
theorem qo_9_48 : qm_peOK qm_G qm_cnm RX1 48 (.inr (.inl (false, mX6_says))) := ⟨qw_536, qw_662, qw_75, by decide +kernel, ⟨by decide +kernel, by decide +kernel⟩, by decide +kernel, rfl, by decide, (fun h => by cases h), (fun _ => ⟨qw_534, qw_535, _, _, rfl⟩)⟩
set_option maxRecDepth 100000 in
theorem qm_pk9 : ∀ q ∈ qm_pl9, qm_peOK qm_G qm_cnm (qm_cnm 9) q.1 q.2 := List.forall_mem_cons.mpr ⟨qo_9_9, List.forall_mem_cons.mpr ⟨qo_9_15, List.forall_mem_cons.mpr ⟨qo_9_21, List.forall_mem_cons.mpr ⟨qo_9_25, List.forall_mem_cons.mpr ⟨qo_9_29, List.forall_mem_cons.mpr ⟨qo_9_33, List.forall_mem_cons.mpr ⟨qo_9_37, List.forall_mem_cons.mpr ⟨qo_9_41, List.forall_mem_cons.mpr ⟨qo_9_45, List.forall_mem_cons.mpr ⟨qo_9_48, fun _ h => absurd h List.not_mem_nil⟩⟩⟩⟩⟩⟩⟩⟩⟩⟩
theorem qo_10_264 : qm_peOK qm_G qm_cnm RJ6 264 (.inr (.inr (.inl (65536)))) := qw_608
theorem qo_10_265 : qm_peOK qm_G qm_cnm RJ6 265 (.inr (.inr (.inl (1431655765)))) := qw_501
theorem qo_10_266 : qm_peOK qm_G qm_cnm RJ6 266 (.inr (.inr (.inl (858993459)))) := qw_502
theorem qo_10_267 : qm_peOK qm_G qm_cnm RJ6 267 (.inr (.inr (.inl (252645135)))) := qw_503
set_option maxRecDepth 100000 in
theorem qm_pk10 : ∀ q ∈ qm_pl10, qm_peOK qm_G qm_cnm (qm_cnm 10) q.1 q.2 := List.forall_mem_cons.mpr ⟨qo_10_264, List.forall_mem_cons.mpr ⟨qo_10_265, List.forall_mem_cons.mpr ⟨qo_10_266, List.forall_mem_cons.mpr ⟨qo_10_267, fun _ h => absurd h List.not_mem_nil⟩⟩⟩⟩

set_option maxRecDepth 100000 in
theorem qm_pk11 : ∀ q ∈ qm_pl11, qm_peOK qm_G qm_cnm (qm_cnm 11) q.1 q.2 := fun _ h => absurd h List.not_mem_nil
theorem qm_pool_ok : qm_poolOK qm_pool qm_G qm_cnm := by
  intro oc i z h
  match oc, h with
  | 0, h => exact qm_pk0 _ (qm_lookup_mem h)
  | 1, h => exact qm_pk1 _ (qm_lookup_mem h)
  | 2, h => exact qm_pk2 _ (qm_lookup_mem h)
  | 3, h => exact qm_pk3 _ (qm_lookup_mem h)
  | 4, h => exact qm_pk4 _ (qm_lookup_mem h)
  | 5, h => exact qm_pk5 _ (qm_lookup_mem h)
  | 6, h => exact qm_pk6 _ (qm_lookup_mem h)
  | 7, h => exact qm_pk7 _ (qm_lookup_mem h)
  | 8, h => exact qm_pk8 _ (qm_lookup_mem h)
  | 9, h => exact qm_pk9 _ (qm_lookup_mem h)
  | 10, h => exact qm_pk10 _ (qm_lookup_mem h)
  | 11, h => exact qm_pk11 _ (qm_lookup_mem h)
  | k + 12, h => cases h
def qm_oI : List (Nat × Nat) := [(0, 3), (0, 4), (0, 5), (0, 6), (0, 7), (0, 8), (0, 9), (4, 0), (4, 1), (22, 0), (22, 1), (22, 2), (22, 3), (28, 0), (28, 1), (28, 2), (28, 3), (34, 0), (34, 1), (34, 2), (34, 3), (48, 1), (50, 0), (50, 1), (50, 2), (51, 2), (54, 3), (55, 0), (55, 6), (55, 8), (55, 11), (55, 12), (55, 13), (55, 14), (55, 15), (55, 16), (55, 22), (55, 23), (55, 24), (55, 25), (55, 28), (55, 29), (55, 30), (55, 34), (55, 36), (55, 38)]
def qm_oF : List Nat := [1, 2, 3, 5, 6, 7, 10, 11, 12, 13, 14, 15, 16, 17, 18, 19, 20, 21, 23, 24, 25, 26, 27, 29, 30, 31, 32, 33, 35, 36, 37, 38, 39, 42, 43, 44, 45, 46, 47, 49, 52, 53, 56, 57, 58, 59, 60, 61, 62, 63, 64, 65, 66, 67, 68, 69, 70, 71, 72, 73, 74, 75]
def qm_chkL (lay : List qm_LE) : Bool := (List.range lay.length).all fun a => match lay[a]? with
  | some (.inl (_, fs)) => (List.range fs.length).all fun i => match fs[i]? with
    | some (.inl s) => decide (qm_oI[s]? = some (a, i))
    | _ => true
  | some (.inr (.inl (_, j))) => decide (qm_oF[j]? = some a)
  | _ => true
theorem qm_wf_of {lay : List qm_LE} (h : qm_chkL lay = true) : qm_wf lay := by
  have hI : ∀ (a ci : Nat) (fs : List (Nat ⊕ Nat)) (i s : Nat), lay[a]? = some (.inl (ci, fs)) → fs[i]? = some (.inl s) → qm_oI[s]? = some (a, i) := by
    intro a ci fs i s ha hi
    have h1 := List.all_eq_true.mp h a (List.mem_range.mpr (List.getElem?_eq_some_iff.mp ha).1)
    rw [ha] at h1
    have h2 := List.all_eq_true.mp h1 i (List.mem_range.mpr (List.getElem?_eq_some_iff.mp hi).1)
    rw [hi] at h2
    exact of_decide_eq_true h2
  have hF : ∀ a n j : Nat, lay[a]? = some (.inr (.inl (n, j))) → qm_oF[j]? = some a := by
    intro a n j ha
    have h1 := List.all_eq_true.mp h a (List.mem_range.mpr (List.getElem?_eq_some_iff.mp ha).1)
    rw [ha] at h1
    exact of_decide_eq_true h1
  refine ⟨fun a b ci cj fs gs i j s ha hb hi hj => ?_, fun a b n m j ha hb => ?_⟩
  · have := (hI a ci fs i s ha hi).symm.trans (hI b cj gs j s hb hj)
    cases this
    exact ⟨rfl, rfl⟩
  · exact Option.some.inj ((hF a n j ha).symm.trans (hF b m j hb))
set_option maxRecDepth 100000 in
theorem qm_wf_lay : qm_wf qm_lay := qm_wf_of (by decide +kernel)
set_option maxRecDepth 100000 in
theorem qm_wf_layT : qm_wf qm_layT := qm_wf_of (by decide +kernel)
/-- a whole call of the pure machine is one of the real one -/
theorem qm_Met {d : Nat} {mi : qm_MI} {as : List Value} {σ τ : qm_St} {v : Option Value} {lay : List qm_LE} (hw : qm_wf lay) (h : Ok lay d mi as σ v τ) (hm : qm_mok qm_G qm_cnm mi) (l : Launch) (α : Nat → Nat) (cA cR : ClassId) (D : va_G) (sz : Nat) :
    Met l mi.1 (qm_ws qm_G mi) (qm_rm (d + 5)) (va_Pc (as.map (qm_rl α)) (qm_B α cA cR lay D sz σ)) (qm_Qc α cA cR lay D (va_A (qm_W α cA cR lay σ) sz) v τ) 0 0 (va_A (qm_W α cA cR lay σ) sz) := by
  obtain ⟨h1, n, h2⟩ := h
  exact qm_Met_of (qm_walk qm_jwG hw qm_pool_ok qm_G_good n) h2 hm h1 l α cA cR D sz
