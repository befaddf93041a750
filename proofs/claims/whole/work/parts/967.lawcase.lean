/-! ===== the law: its cases ===== -/
theorem ql_cmp (x : Int64) : lg_cmp x x = 0 := by
  unfold lg_cmp
  simp
/-- what stands fast all through the law -/
def qn_Lw (p : Program) (s : State) (m : MethodId) (c : Code) (b L : Nat) (xs : Nat → Int32) (α : Nat → Nat) (cA cR : ClassId) (D : va_G) : Prop := p.tables.exec = Jvm.exec ∧ c.code = cL_law ∧ c.maxLocals = 4 ∧ s.vm.findClass "FirstColourLaw" = some m.cls ∧ (∀ w ∈ qm_G, w.before #[Value.ref b] s = true) ∧ va_X b L xs s s.heap ∧ b < s.heap.size ∧ va_K D vwCl (qm_ty cA cR) s ∧ qm_E α (fun q => s.heap.size ≤ q) s s.heap

set_option maxHeartbeats 1000000 in
theorem ql_c0 {p : Program} {l : Launch} {e : Env} {s : State} {m : MethodId} {below : List Frame} {meth : Method} {c : Code} {b L : Nat} {xs : Nat → Int32} {α : Nat → Nat} {cA cR : ClassId} {D : va_G} {Q : State → Prop} {H : Heap} {locs : List Loc} {cells slots : Nat} {σ : qm_St} {G : gg_T} {i : Int32} {ls : Array Slot} (LW : qn_Lw p s m c b L xs α cA cR D) (hG : gg_ok G) (hC : CG σ G) (hM : MG σ G) (h1 : vp_in (i + 1) L) (h2 : vp_in (i + 2) L) (h3 : vp_in (i + 3) L) (h4 : vp_in (i + 4) L) (h5 : vp_in (i + 5) L) (h6 : vp_in (i + 6) L) (hl : lv_has ls 4 [(0, .ref b), (1, .ref (α 54)), (2, .ref (α 55)), (3, .int i)]) (hP : va_P D vwCl (qm_W α cA cR qm_lay σ) H) (hD : va_D (fun q => s.heap.size ≤ q) (qm_W α cA cR qm_lay σ)) (hS : va_S (fun q => s.heap.size ≤ q) s.heap H locs) (hcs : cells ≤ room_1.cells ∧ slots ≤ room_1.slots)
    (kk : ∀ (σ' : qm_St) (G' : gg_T) (H1 : Heap) (locs1 : List Loc), gg_ok G' → CG σ' G' → MG σ' G' → va_P D vwCl (qm_W α cA cR qm_lay σ') H1 → va_D (fun q => s.heap.size ≤ q) (qm_W α cA cR qm_lay σ') → va_S (fun q => s.heap.size ≤ q) s.heap H1 locs1 → W p l e room_1 s m #[Value.ref b] below meth c H1 locs1 cells slots Q (F0 m 1353 ls [])) :
    W p l e room_1 s m #[Value.ref b] below meth c H locs cells slots Q (F0 m 192 ls []) := by
  obtain ⟨hx, hb, hml, hown, hGw, hX, hbl, hK, hE⟩ := LW
  have hA : ∀ q : Nat, s.heap.size ≤ q → (fun q : Nat => s.heap.size ≤ q) q := fun _ h => h
  have hbA : ¬ (fun q : Nat => s.heap.size ≤ q) b := Nat.not_le.mpr hbl
  obtain ⟨T, X, P, Im, S⟩ := G
  obtain ⟨r, G', hG', h8, h9⟩ := j_count hG (xs (i + 1).toNatClampNeg)
  obtain ⟨σ1, hO8, hC1, hs1⟩ := h8 σ hC
  obtain ⟨σ2, hO9, hM2, hs2⟩ := h9 σ1 (hM.smC hs1)
  have hC2 := hC1.smM hG' hs2
  obtain ⟨x, rfl⟩ := qn_okI hO8 rfl
  refine lv_aload_n hx hb dL_law_192 rfl (lv_at hl 1 rfl) ?_
  refine lv_aload_n hx hb dL_law_193 rfl (lv_at hl 0 rfl) ?_
  refine lv_iload_n hx hb dL_law_194 rfl (lv_at hl 3 rfl) ?_
  refine lv_iconst (v := 1) hx hb dL_law_195 (by decide) ?_
  refine lv_iadd hx hb dL_law_196 ?_
  refine va_sld hx hb hX hbl hbA hS h1 dL_law_197 ?_
  refine qn_pub (a := 54) (as := [.int (xs (i + 1).toNatClampNeg)]) (rest := []) hx hb hml hown hGw ql_X8_count hO8 rfl rfl rfl (Nat.le_of_ble_eq_true rfl) ⟨(Nat.le_of_ble_eq_true rfl), (Nat.le_of_ble_eq_true rfl)⟩ hcs dL_law_198 hl.1 hK hP hD hS hA hE (fun H locs hP hD hS => ?_)
  refine lv_aload_n hx hb dL_law_201 rfl (lv_at hl 2 rfl) ?_
  refine lv_aload_n hx hb dL_law_202 rfl (lv_at hl 0 rfl) ?_
  refine lv_iload_n hx hb dL_law_203 rfl (lv_at hl 3 rfl) ?_
  refine lv_iconst (v := 1) hx hb dL_law_204 (by decide) ?_
  refine lv_iadd hx hb dL_law_205 ?_
  refine va_sld hx hb hX hbl hbA hS h1 dL_law_206 ?_
  refine qn_pub (a := 55) (as := [.int (xs (i + 1).toNatClampNeg)]) (rest := [.int x]) hx hb hml hown hGw ql_X9_count hO9 rfl rfl rfl (Nat.le_of_ble_eq_true rfl) ⟨(Nat.le_of_ble_eq_true rfl), (Nat.le_of_ble_eq_true rfl)⟩ hcs dL_law_207 hl.1 hK hP hD hS hA hE (fun H locs hP hD hS => ?_)
  refine lv_icmp_eq (tgt := 1353) hx hb dL_law_210 (by decide) (fun _ => ?_) (fun hc => absurd rfl hc)
  exact kk σ2 G' H locs hG' hC2 hM2 hP hD hS

set_option maxHeartbeats 1000000 in
theorem ql_c1 {p : Program} {l : Launch} {e : Env} {s : State} {m : MethodId} {below : List Frame} {meth : Method} {c : Code} {b L : Nat} {xs : Nat → Int32} {α : Nat → Nat} {cA cR : ClassId} {D : va_G} {Q : State → Prop} {H : Heap} {locs : List Loc} {cells slots : Nat} {σ : qm_St} {G : gg_T} {i : Int32} {ls : Array Slot} (LW : qn_Lw p s m c b L xs α cA cR D) (hG : gg_ok G) (hC : CG σ G) (hM : MG σ G) (h1 : vp_in (i + 1) L) (h2 : vp_in (i + 2) L) (h3 : vp_in (i + 3) L) (h4 : vp_in (i + 4) L) (h5 : vp_in (i + 5) L) (h6 : vp_in (i + 6) L) (hl : lv_has ls 4 [(0, .ref b), (1, .ref (α 54)), (2, .ref (α 55)), (3, .int i)]) (hP : va_P D vwCl (qm_W α cA cR qm_lay σ) H) (hD : va_D (fun q => s.heap.size ≤ q) (qm_W α cA cR qm_lay σ)) (hS : va_S (fun q => s.heap.size ≤ q) s.heap H locs) (hcs : cells ≤ room_1.cells ∧ slots ≤ room_1.slots)
    (kk : ∀ (σ' : qm_St) (G' : gg_T) (H1 : Heap) (locs1 : List Loc), gg_ok G' → CG σ' G' → MG σ' G' → va_P D vwCl (qm_W α cA cR qm_lay σ') H1 → va_D (fun q => s.heap.size ≤ q) (qm_W α cA cR qm_lay σ') → va_S (fun q => s.heap.size ≤ q) s.heap H1 locs1 → W p l e room_1 s m #[Value.ref b] below meth c H1 locs1 cells slots Q (F0 m 1353 ls [])) :
    W p l e room_1 s m #[Value.ref b] below meth c H locs cells slots Q (F0 m 215 ls []) := by
  obtain ⟨hx, hb, hml, hown, hGw, hX, hbl, hK, hE⟩ := LW
  have hA : ∀ q : Nat, s.heap.size ≤ q → (fun q : Nat => s.heap.size ≤ q) q := fun _ h => h
  have hbA : ¬ (fun q : Nat => s.heap.size ≤ q) b := Nat.not_le.mpr hbl
  obtain ⟨T, X, P, Im, S⟩ := G
  obtain ⟨r, G', hG', h8, h9⟩ := j_feed hG (xs (i + 1).toNatClampNeg) (xs (i + 2).toNatClampNeg) (xs (i + 3).toNatClampNeg) (xs (i + 4).toNatClampNeg) (xs (i + 5).toNatClampNeg) (xs (i + 6).toNatClampNeg)
  obtain ⟨σ1, hO8, hC1, hs1⟩ := h8 σ hC
  obtain ⟨σ2, hO9, hM2, hs2⟩ := h9 σ1 (hM.smC hs1)
  have hC2 := hC1.smM hG' hs2
  obtain ⟨x, rfl⟩ := qn_okI hO8 rfl
  refine lv_aload_n hx hb dL_law_215 rfl (lv_at hl 1 rfl) ?_
  refine lv_aload_n hx hb dL_law_216 rfl (lv_at hl 0 rfl) ?_
  refine lv_iload_n hx hb dL_law_217 rfl (lv_at hl 3 rfl) ?_
  refine lv_iconst (v := 1) hx hb dL_law_218 (by decide) ?_
  refine lv_iadd hx hb dL_law_219 ?_
  refine va_sld hx hb hX hbl hbA hS h1 dL_law_220 ?_
  refine lv_aload_n hx hb dL_law_221 rfl (lv_at hl 0 rfl) ?_
  refine lv_iload_n hx hb dL_law_222 rfl (lv_at hl 3 rfl) ?_
  refine lv_iconst (v := 2) hx hb dL_law_223 (by decide) ?_
  refine lv_iadd hx hb dL_law_224 ?_
  refine va_sld hx hb hX hbl hbA hS h2 dL_law_225 ?_
  refine lv_aload_n hx hb dL_law_226 rfl (lv_at hl 0 rfl) ?_
  refine lv_iload_n hx hb dL_law_227 rfl (lv_at hl 3 rfl) ?_
  refine lv_iconst (v := 3) hx hb dL_law_228 (by decide) ?_
  refine lv_iadd hx hb dL_law_229 ?_
  refine va_sld hx hb hX hbl hbA hS h3 dL_law_230 ?_
  refine lv_aload_n hx hb dL_law_231 rfl (lv_at hl 0 rfl) ?_
  refine lv_iload_n hx hb dL_law_232 rfl (lv_at hl 3 rfl) ?_
  refine lv_iconst (v := 4) hx hb dL_law_233 (by decide) ?_
  refine lv_iadd hx hb dL_law_234 ?_
  refine va_sld hx hb hX hbl hbA hS h4 dL_law_235 ?_
  refine lv_aload_n hx hb dL_law_236 rfl (lv_at hl 0 rfl) ?_
  refine lv_iload_n hx hb dL_law_237 rfl (lv_at hl 3 rfl) ?_
  refine lv_iconst (v := 5) hx hb dL_law_238 (by decide) ?_
  refine lv_iadd hx hb dL_law_239 ?_
  refine va_sld hx hb hX hbl hbA hS h5 dL_law_240 ?_
  refine lv_aload_n hx hb dL_law_241 rfl (lv_at hl 0 rfl) ?_
  refine lv_iload_n hx hb dL_law_242 rfl (lv_at hl 3 rfl) ?_
  refine lv_bipush (v := 6) hx hb dL_law_243 (by decide) ?_
  refine lv_iadd hx hb dL_law_245 ?_
  refine va_sld hx hb hX hbl hbA hS h6 dL_law_246 ?_
  refine qn_pub (a := 54) (as := [.int (xs (i + 1).toNatClampNeg), .int (xs (i + 2).toNatClampNeg), .int (xs (i + 3).toNatClampNeg), .int (xs (i + 4).toNatClampNeg), .int (xs (i + 5).toNatClampNeg), .int (xs (i + 6).toNatClampNeg)]) (rest := []) hx hb hml hown hGw ql_X8_feed hO8 rfl rfl rfl (Nat.le_of_ble_eq_true rfl) ⟨(Nat.le_of_ble_eq_true rfl), (Nat.le_of_ble_eq_true rfl)⟩ hcs dL_law_247 hl.1 hK hP hD hS hA hE (fun H locs hP hD hS => ?_)
  refine lv_aload_n hx hb dL_law_250 rfl (lv_at hl 2 rfl) ?_
  refine lv_aload_n hx hb dL_law_251 rfl (lv_at hl 0 rfl) ?_
  refine lv_iload_n hx hb dL_law_252 rfl (lv_at hl 3 rfl) ?_
  refine lv_iconst (v := 1) hx hb dL_law_253 (by decide) ?_
  refine lv_iadd hx hb dL_law_254 ?_
  refine va_sld hx hb hX hbl hbA hS h1 dL_law_255 ?_
  refine lv_aload_n hx hb dL_law_256 rfl (lv_at hl 0 rfl) ?_
  refine lv_iload_n hx hb dL_law_257 rfl (lv_at hl 3 rfl) ?_
  refine lv_iconst (v := 2) hx hb dL_law_258 (by decide) ?_
  refine lv_iadd hx hb dL_law_259 ?_
  refine va_sld hx hb hX hbl hbA hS h2 dL_law_260 ?_
  refine lv_aload_n hx hb dL_law_261 rfl (lv_at hl 0 rfl) ?_
  refine lv_iload_n hx hb dL_law_262 rfl (lv_at hl 3 rfl) ?_
  refine lv_iconst (v := 3) hx hb dL_law_263 (by decide) ?_
  refine lv_iadd hx hb dL_law_264 ?_
  refine va_sld hx hb hX hbl hbA hS h3 dL_law_265 ?_
  refine lv_aload_n hx hb dL_law_266 rfl (lv_at hl 0 rfl) ?_
  refine lv_iload_n hx hb dL_law_267 rfl (lv_at hl 3 rfl) ?_
  refine lv_iconst (v := 4) hx hb dL_law_268 (by decide) ?_
  refine lv_iadd hx hb dL_law_269 ?_
  refine va_sld hx hb hX hbl hbA hS h4 dL_law_270 ?_
  refine lv_aload_n hx hb dL_law_271 rfl (lv_at hl 0 rfl) ?_
  refine lv_iload_n hx hb dL_law_272 rfl (lv_at hl 3 rfl) ?_
  refine lv_iconst (v := 5) hx hb dL_law_273 (by decide) ?_
  refine lv_iadd hx hb dL_law_274 ?_
  refine va_sld hx hb hX hbl hbA hS h5 dL_law_275 ?_
  refine lv_aload_n hx hb dL_law_276 rfl (lv_at hl 0 rfl) ?_
  refine lv_iload_n hx hb dL_law_277 rfl (lv_at hl 3 rfl) ?_
  refine lv_bipush (v := 6) hx hb dL_law_278 (by decide) ?_
  refine lv_iadd hx hb dL_law_280 ?_
  refine va_sld hx hb hX hbl hbA hS h6 dL_law_281 ?_
  refine qn_pub (a := 55) (as := [.int (xs (i + 1).toNatClampNeg), .int (xs (i + 2).toNatClampNeg), .int (xs (i + 3).toNatClampNeg), .int (xs (i + 4).toNatClampNeg), .int (xs (i + 5).toNatClampNeg), .int (xs (i + 6).toNatClampNeg)]) (rest := [.int x]) hx hb hml hown hGw ql_X9_feed hO9 rfl rfl rfl (Nat.le_of_ble_eq_true rfl) ⟨(Nat.le_of_ble_eq_true rfl), (Nat.le_of_ble_eq_true rfl)⟩ hcs dL_law_282 hl.1 hK hP hD hS hA hE (fun H locs hP hD hS => ?_)
  refine lv_icmp_eq (tgt := 1353) hx hb dL_law_285 (by decide) (fun _ => ?_) (fun hc => absurd rfl hc)
  exact kk σ2 G' H locs hG' hC2 hM2 hP hD hS

set_option maxHeartbeats 1000000 in
theorem ql_c2 {p : Program} {l : Launch} {e : Env} {s : State} {m : MethodId} {below : List Frame} {meth : Method} {c : Code} {b L : Nat} {xs : Nat → Int32} {α : Nat → Nat} {cA cR : ClassId} {D : va_G} {Q : State → Prop} {H : Heap} {locs : List Loc} {cells slots : Nat} {σ : qm_St} {G : gg_T} {i : Int32} {ls : Array Slot} (LW : qn_Lw p s m c b L xs α cA cR D) (hG : gg_ok G) (hC : CG σ G) (hM : MG σ G) (h1 : vp_in (i + 1) L) (h2 : vp_in (i + 2) L) (h3 : vp_in (i + 3) L) (h4 : vp_in (i + 4) L) (h5 : vp_in (i + 5) L) (h6 : vp_in (i + 6) L) (hl : lv_has ls 4 [(0, .ref b), (1, .ref (α 54)), (2, .ref (α 55)), (3, .int i)]) (hP : va_P D vwCl (qm_W α cA cR qm_lay σ) H) (hD : va_D (fun q => s.heap.size ≤ q) (qm_W α cA cR qm_lay σ)) (hS : va_S (fun q => s.heap.size ≤ q) s.heap H locs) (hcs : cells ≤ room_1.cells ∧ slots ≤ room_1.slots)
    (kk : ∀ (σ' : qm_St) (G' : gg_T) (H1 : Heap) (locs1 : List Loc), gg_ok G' → CG σ' G' → MG σ' G' → va_P D vwCl (qm_W α cA cR qm_lay σ') H1 → va_D (fun q => s.heap.size ≤ q) (qm_W α cA cR qm_lay σ') → va_S (fun q => s.heap.size ≤ q) s.heap H1 locs1 → W p l e room_1 s m #[Value.ref b] below meth c H1 locs1 cells slots Q (F0 m 1353 ls [])) :
    W p l e room_1 s m #[Value.ref b] below meth c H locs cells slots Q (F0 m 290 ls []) := by
  obtain ⟨hx, hb, hml, hown, hGw, hX, hbl, hK, hE⟩ := LW
  have hA : ∀ q : Nat, s.heap.size ≤ q → (fun q : Nat => s.heap.size ≤ q) q := fun _ h => h
  have hbA : ¬ (fun q : Nat => s.heap.size ≤ q) b := Nat.not_le.mpr hbl
  obtain ⟨T, X, P, Im, S⟩ := G
  obtain ⟨r, G', hG', h8, h9⟩ := j_text hG
  obtain ⟨σ1, hO8, hC1, hs1⟩ := h8 σ hC
  obtain ⟨σ2, hO9, hM2, hs2⟩ := h9 σ1 (hM.smC hs1)
  have hC2 := hC1.smM hG' hs2
  obtain ⟨x, rfl⟩ := qn_okI hO8 rfl
  refine lv_aload_n hx hb dL_law_290 rfl (lv_at hl 1 rfl) ?_
  refine qn_pub (a := 54) (as := []) (rest := []) hx hb hml hown hGw ql_X8_text hO8 rfl rfl rfl (Nat.le_of_ble_eq_true rfl) ⟨(Nat.le_of_ble_eq_true rfl), (Nat.le_of_ble_eq_true rfl)⟩ hcs dL_law_291 hl.1 hK hP hD hS hA hE (fun H locs hP hD hS => ?_)
  refine lv_aload_n hx hb dL_law_294 rfl (lv_at hl 2 rfl) ?_
  refine qn_pub (a := 55) (as := []) (rest := [.int x]) hx hb hml hown hGw ql_X9_text hO9 rfl rfl rfl (Nat.le_of_ble_eq_true rfl) ⟨(Nat.le_of_ble_eq_true rfl), (Nat.le_of_ble_eq_true rfl)⟩ hcs dL_law_295 hl.1 hK hP hD hS hA hE (fun H locs hP hD hS => ?_)
  refine lv_icmp_eq (tgt := 1353) hx hb dL_law_298 (by decide) (fun _ => ?_) (fun hc => absurd rfl hc)
  exact kk σ2 G' H locs hG' hC2 hM2 hP hD hS

set_option maxHeartbeats 1000000 in
theorem ql_c3 {p : Program} {l : Launch} {e : Env} {s : State} {m : MethodId} {below : List Frame} {meth : Method} {c : Code} {b L : Nat} {xs : Nat → Int32} {α : Nat → Nat} {cA cR : ClassId} {D : va_G} {Q : State → Prop} {H : Heap} {locs : List Loc} {cells slots : Nat} {σ : qm_St} {G : gg_T} {i : Int32} {ls : Array Slot} (LW : qn_Lw p s m c b L xs α cA cR D) (hG : gg_ok G) (hC : CG σ G) (hM : MG σ G) (h1 : vp_in (i + 1) L) (h2 : vp_in (i + 2) L) (h3 : vp_in (i + 3) L) (h4 : vp_in (i + 4) L) (h5 : vp_in (i + 5) L) (h6 : vp_in (i + 6) L) (hl : lv_has ls 4 [(0, .ref b), (1, .ref (α 54)), (2, .ref (α 55)), (3, .int i)]) (hP : va_P D vwCl (qm_W α cA cR qm_lay σ) H) (hD : va_D (fun q => s.heap.size ≤ q) (qm_W α cA cR qm_lay σ)) (hS : va_S (fun q => s.heap.size ≤ q) s.heap H locs) (hcs : cells ≤ room_1.cells ∧ slots ≤ room_1.slots)
    (kk : ∀ (σ' : qm_St) (G' : gg_T) (H1 : Heap) (locs1 : List Loc), gg_ok G' → CG σ' G' → MG σ' G' → va_P D vwCl (qm_W α cA cR qm_lay σ') H1 → va_D (fun q => s.heap.size ≤ q) (qm_W α cA cR qm_lay σ') → va_S (fun q => s.heap.size ≤ q) s.heap H1 locs1 → W p l e room_1 s m #[Value.ref b] below meth c H1 locs1 cells slots Q (F0 m 1353 ls [])) :
    W p l e room_1 s m #[Value.ref b] below meth c H locs cells slots Q (F0 m 303 ls []) := by
  obtain ⟨hx, hb, hml, hown, hGw, hX, hbl, hK, hE⟩ := LW
  have hA : ∀ q : Nat, s.heap.size ≤ q → (fun q : Nat => s.heap.size ≤ q) q := fun _ h => h
  have hbA : ¬ (fun q : Nat => s.heap.size ≤ q) b := Nat.not_le.mpr hbl
  obtain ⟨T, X, P, Im, S⟩ := G
  obtain ⟨r, G', hG', h8, h9⟩ := j_force hG (xs (i + 1).toNatClampNeg)
  obtain ⟨σ1, hO8, hC1, hs1⟩ := h8 σ hC
  obtain ⟨σ2, hO9, hM2, hs2⟩ := h9 σ1 (hM.smC hs1)
  have hC2 := hC1.smM hG' hs2
  obtain ⟨x, rfl⟩ := qn_okI hO8 rfl
  refine lv_aload_n hx hb dL_law_303 rfl (lv_at hl 1 rfl) ?_
  refine lv_aload_n hx hb dL_law_304 rfl (lv_at hl 0 rfl) ?_
  refine lv_iload_n hx hb dL_law_305 rfl (lv_at hl 3 rfl) ?_
  refine lv_iconst (v := 1) hx hb dL_law_306 (by decide) ?_
  refine lv_iadd hx hb dL_law_307 ?_
  refine va_sld hx hb hX hbl hbA hS h1 dL_law_308 ?_
  refine qn_pub (a := 54) (as := [.int (xs (i + 1).toNatClampNeg)]) (rest := []) hx hb hml hown hGw ql_X8_force hO8 rfl rfl rfl (Nat.le_of_ble_eq_true rfl) ⟨(Nat.le_of_ble_eq_true rfl), (Nat.le_of_ble_eq_true rfl)⟩ hcs dL_law_309 hl.1 hK hP hD hS hA hE (fun H locs hP hD hS => ?_)
  refine lv_aload_n hx hb dL_law_312 rfl (lv_at hl 2 rfl) ?_
  refine lv_aload_n hx hb dL_law_313 rfl (lv_at hl 0 rfl) ?_
  refine lv_iload_n hx hb dL_law_314 rfl (lv_at hl 3 rfl) ?_
  refine lv_iconst (v := 1) hx hb dL_law_315 (by decide) ?_
  refine lv_iadd hx hb dL_law_316 ?_
  refine va_sld hx hb hX hbl hbA hS h1 dL_law_317 ?_
  refine qn_pub (a := 55) (as := [.int (xs (i + 1).toNatClampNeg)]) (rest := [.int x]) hx hb hml hown hGw ql_X9_force hO9 rfl rfl rfl (Nat.le_of_ble_eq_true rfl) ⟨(Nat.le_of_ble_eq_true rfl), (Nat.le_of_ble_eq_true rfl)⟩ hcs dL_law_318 hl.1 hK hP hD hS hA hE (fun H locs hP hD hS => ?_)
  refine lv_icmp_eq (tgt := 1353) hx hb dL_law_321 (by decide) (fun _ => ?_) (fun hc => absurd rfl hc)
  exact kk σ2 G' H locs hG' hC2 hM2 hP hD hS

set_option maxHeartbeats 1000000 in
theorem ql_c4 {p : Program} {l : Launch} {e : Env} {s : State} {m : MethodId} {below : List Frame} {meth : Method} {c : Code} {b L : Nat} {xs : Nat → Int32} {α : Nat → Nat} {cA cR : ClassId} {D : va_G} {Q : State → Prop} {H : Heap} {locs : List Loc} {cells slots : Nat} {σ : qm_St} {G : gg_T} {i : Int32} {ls : Array Slot} (LW : qn_Lw p s m c b L xs α cA cR D) (hG : gg_ok G) (hC : CG σ G) (hM : MG σ G) (h1 : vp_in (i + 1) L) (h2 : vp_in (i + 2) L) (h3 : vp_in (i + 3) L) (h4 : vp_in (i + 4) L) (h5 : vp_in (i + 5) L) (h6 : vp_in (i + 6) L) (hl : lv_has ls 4 [(0, .ref b), (1, .ref (α 54)), (2, .ref (α 55)), (3, .int i)]) (hP : va_P D vwCl (qm_W α cA cR qm_lay σ) H) (hD : va_D (fun q => s.heap.size ≤ q) (qm_W α cA cR qm_lay σ)) (hS : va_S (fun q => s.heap.size ≤ q) s.heap H locs) (hcs : cells ≤ room_1.cells ∧ slots ≤ room_1.slots)
    (kk : ∀ (σ' : qm_St) (G' : gg_T) (H1 : Heap) (locs1 : List Loc), gg_ok G' → CG σ' G' → MG σ' G' → va_P D vwCl (qm_W α cA cR qm_lay σ') H1 → va_D (fun q => s.heap.size ≤ q) (qm_W α cA cR qm_lay σ') → va_S (fun q => s.heap.size ≤ q) s.heap H1 locs1 → W p l e room_1 s m #[Value.ref b] below meth c H1 locs1 cells slots Q (F0 m 1353 ls [])) :
    W p l e room_1 s m #[Value.ref b] below meth c H locs cells slots Q (F0 m 326 ls []) := by
  obtain ⟨hx, hb, hml, hown, hGw, hX, hbl, hK, hE⟩ := LW
  have hA : ∀ q : Nat, s.heap.size ≤ q → (fun q : Nat => s.heap.size ≤ q) q := fun _ h => h
  have hbA : ¬ (fun q : Nat => s.heap.size ≤ q) b := Nat.not_le.mpr hbl
  obtain ⟨T, X, P, Im, S⟩ := G
  obtain ⟨r, G', hG', h8, h9⟩ := j_asks hG (xs (i + 1).toNatClampNeg) (xs (i + 2).toNatClampNeg) (xs (i + 3).toNatClampNeg) (xs (i + 4).toNatClampNeg)
  obtain ⟨σ1, hO8, hC1, hs1⟩ := h8 σ hC
  obtain ⟨σ2, hO9, hM2, hs2⟩ := h9 σ1 (hM.smC hs1)
  have hC2 := hC1.smM hG' hs2
  obtain ⟨x, rfl⟩ := qn_okI hO8 rfl
  refine lv_aload_n hx hb dL_law_326 rfl (lv_at hl 1 rfl) ?_
  refine lv_aload_n hx hb dL_law_327 rfl (lv_at hl 0 rfl) ?_
  refine lv_iload_n hx hb dL_law_328 rfl (lv_at hl 3 rfl) ?_
  refine lv_iconst (v := 1) hx hb dL_law_329 (by decide) ?_
  refine lv_iadd hx hb dL_law_330 ?_
  refine va_sld hx hb hX hbl hbA hS h1 dL_law_331 ?_
  refine lv_aload_n hx hb dL_law_332 rfl (lv_at hl 0 rfl) ?_
  refine lv_iload_n hx hb dL_law_333 rfl (lv_at hl 3 rfl) ?_
  refine lv_iconst (v := 2) hx hb dL_law_334 (by decide) ?_
  refine lv_iadd hx hb dL_law_335 ?_
  refine va_sld hx hb hX hbl hbA hS h2 dL_law_336 ?_
  refine lv_aload_n hx hb dL_law_337 rfl (lv_at hl 0 rfl) ?_
  refine lv_iload_n hx hb dL_law_338 rfl (lv_at hl 3 rfl) ?_
  refine lv_iconst (v := 3) hx hb dL_law_339 (by decide) ?_
  refine lv_iadd hx hb dL_law_340 ?_
  refine va_sld hx hb hX hbl hbA hS h3 dL_law_341 ?_
  refine lv_aload_n hx hb dL_law_342 rfl (lv_at hl 0 rfl) ?_
  refine lv_iload_n hx hb dL_law_343 rfl (lv_at hl 3 rfl) ?_
  refine lv_iconst (v := 4) hx hb dL_law_344 (by decide) ?_
  refine lv_iadd hx hb dL_law_345 ?_
  refine va_sld hx hb hX hbl hbA hS h4 dL_law_346 ?_
  refine qn_pub (a := 54) (as := [.int (xs (i + 1).toNatClampNeg), .int (xs (i + 2).toNatClampNeg), .int (xs (i + 3).toNatClampNeg), .int (xs (i + 4).toNatClampNeg)]) (rest := []) hx hb hml hown hGw ql_X8_asks hO8 rfl rfl rfl (Nat.le_of_ble_eq_true rfl) ⟨(Nat.le_of_ble_eq_true rfl), (Nat.le_of_ble_eq_true rfl)⟩ hcs dL_law_347 hl.1 hK hP hD hS hA hE (fun H locs hP hD hS => ?_)
  refine lv_aload_n hx hb dL_law_350 rfl (lv_at hl 2 rfl) ?_
  refine lv_aload_n hx hb dL_law_351 rfl (lv_at hl 0 rfl) ?_
  refine lv_iload_n hx hb dL_law_352 rfl (lv_at hl 3 rfl) ?_
  refine lv_iconst (v := 1) hx hb dL_law_353 (by decide) ?_
  refine lv_iadd hx hb dL_law_354 ?_
  refine va_sld hx hb hX hbl hbA hS h1 dL_law_355 ?_
  refine lv_aload_n hx hb dL_law_356 rfl (lv_at hl 0 rfl) ?_
  refine lv_iload_n hx hb dL_law_357 rfl (lv_at hl 3 rfl) ?_
  refine lv_iconst (v := 2) hx hb dL_law_358 (by decide) ?_
  refine lv_iadd hx hb dL_law_359 ?_
  refine va_sld hx hb hX hbl hbA hS h2 dL_law_360 ?_
  refine lv_aload_n hx hb dL_law_361 rfl (lv_at hl 0 rfl) ?_
  refine lv_iload_n hx hb dL_law_362 rfl (lv_at hl 3 rfl) ?_
  refine lv_iconst (v := 3) hx hb dL_law_363 (by decide) ?_
  refine lv_iadd hx hb dL_law_364 ?_
  refine va_sld hx hb hX hbl hbA hS h3 dL_law_365 ?_
  refine lv_aload_n hx hb dL_law_366 rfl (lv_at hl 0 rfl) ?_
  refine lv_iload_n hx hb dL_law_367 rfl (lv_at hl 3 rfl) ?_
  refine lv_iconst (v := 4) hx hb dL_law_368 (by decide) ?_
  refine lv_iadd hx hb dL_law_369 ?_
  refine va_sld hx hb hX hbl hbA hS h4 dL_law_370 ?_
  refine qn_pub (a := 55) (as := [.int (xs (i + 1).toNatClampNeg), .int (xs (i + 2).toNatClampNeg), .int (xs (i + 3).toNatClampNeg), .int (xs (i + 4).toNatClampNeg)]) (rest := [.int x]) hx hb hml hown hGw ql_X9_asks hO9 rfl rfl rfl (Nat.le_of_ble_eq_true rfl) ⟨(Nat.le_of_ble_eq_true rfl), (Nat.le_of_ble_eq_true rfl)⟩ hcs dL_law_371 hl.1 hK hP hD hS hA hE (fun H locs hP hD hS => ?_)
  refine lv_icmp_eq (tgt := 1353) hx hb dL_law_374 (by decide) (fun _ => ?_) (fun hc => absurd rfl hc)
  exact kk σ2 G' H locs hG' hC2 hM2 hP hD hS

set_option maxHeartbeats 1000000 in
theorem ql_c5 {p : Program} {l : Launch} {e : Env} {s : State} {m : MethodId} {below : List Frame} {meth : Method} {c : Code} {b L : Nat} {xs : Nat → Int32} {α : Nat → Nat} {cA cR : ClassId} {D : va_G} {Q : State → Prop} {H : Heap} {locs : List Loc} {cells slots : Nat} {σ : qm_St} {G : gg_T} {i : Int32} {ls : Array Slot} (LW : qn_Lw p s m c b L xs α cA cR D) (hG : gg_ok G) (hC : CG σ G) (hM : MG σ G) (h1 : vp_in (i + 1) L) (h2 : vp_in (i + 2) L) (h3 : vp_in (i + 3) L) (h4 : vp_in (i + 4) L) (h5 : vp_in (i + 5) L) (h6 : vp_in (i + 6) L) (hl : lv_has ls 4 [(0, .ref b), (1, .ref (α 54)), (2, .ref (α 55)), (3, .int i)]) (hP : va_P D vwCl (qm_W α cA cR qm_lay σ) H) (hD : va_D (fun q => s.heap.size ≤ q) (qm_W α cA cR qm_lay σ)) (hS : va_S (fun q => s.heap.size ≤ q) s.heap H locs) (hcs : cells ≤ room_1.cells ∧ slots ≤ room_1.slots)
    (kk : ∀ (σ' : qm_St) (G' : gg_T) (H1 : Heap) (locs1 : List Loc), gg_ok G' → CG σ' G' → MG σ' G' → va_P D vwCl (qm_W α cA cR qm_lay σ') H1 → va_D (fun q => s.heap.size ≤ q) (qm_W α cA cR qm_lay σ') → va_S (fun q => s.heap.size ≤ q) s.heap H1 locs1 → W p l e room_1 s m #[Value.ref b] below meth c H1 locs1 cells slots Q (F0 m 1353 ls [])) :
    W p l e room_1 s m #[Value.ref b] below meth c H locs cells slots Q (F0 m 379 ls []) := by
  obtain ⟨hx, hb, hml, hown, hGw, hX, hbl, hK, hE⟩ := LW
  have hA : ∀ q : Nat, s.heap.size ≤ q → (fun q : Nat => s.heap.size ≤ q) q := fun _ h => h
  have hbA : ¬ (fun q : Nat => s.heap.size ≤ q) b := Nat.not_le.mpr hbl
  obtain ⟨T, X, P, Im, S⟩ := G
  obtain ⟨r, G', hG', h8, h9⟩ := j_lotJ hG (xs (i + 1).toNatClampNeg) (xs (i + 2).toNatClampNeg) (xs (i + 3).toNatClampNeg)
  obtain ⟨σ1, hO8, hC1, hs1⟩ := h8 σ hC
  obtain ⟨σ2, hO9, hM2, hs2⟩ := h9 σ1 (hM.smC hs1)
  have hC2 := hC1.smM hG' hs2
  obtain ⟨x, rfl⟩ := qn_okI hO8 rfl
  refine lv_aload_n hx hb dL_law_379 rfl (lv_at hl 1 rfl) ?_
  refine lv_aload_n hx hb dL_law_380 rfl (lv_at hl 0 rfl) ?_
  refine lv_iload_n hx hb dL_law_381 rfl (lv_at hl 3 rfl) ?_
  refine lv_iconst (v := 1) hx hb dL_law_382 (by decide) ?_
  refine lv_iadd hx hb dL_law_383 ?_
  refine va_sld hx hb hX hbl hbA hS h1 dL_law_384 ?_
  refine lv_aload_n hx hb dL_law_385 rfl (lv_at hl 0 rfl) ?_
  refine lv_iload_n hx hb dL_law_386 rfl (lv_at hl 3 rfl) ?_
  refine lv_iconst (v := 2) hx hb dL_law_387 (by decide) ?_
  refine lv_iadd hx hb dL_law_388 ?_
  refine va_sld hx hb hX hbl hbA hS h2 dL_law_389 ?_
  refine lv_aload_n hx hb dL_law_390 rfl (lv_at hl 0 rfl) ?_
  refine lv_iload_n hx hb dL_law_391 rfl (lv_at hl 3 rfl) ?_
  refine lv_iconst (v := 3) hx hb dL_law_392 (by decide) ?_
  refine lv_iadd hx hb dL_law_393 ?_
  refine va_sld hx hb hX hbl hbA hS h3 dL_law_394 ?_
  refine qn_pub (a := 54) (as := [.int (xs (i + 1).toNatClampNeg), .int (xs (i + 2).toNatClampNeg), .int (xs (i + 3).toNatClampNeg)]) (rest := []) hx hb hml hown hGw ql_X8_lot hO8 rfl rfl rfl (Nat.le_of_ble_eq_true rfl) ⟨(Nat.le_of_ble_eq_true rfl), (Nat.le_of_ble_eq_true rfl)⟩ hcs dL_law_395 hl.1 hK hP hD hS hA hE (fun H locs hP hD hS => ?_)
  refine lv_aload_n hx hb dL_law_398 rfl (lv_at hl 2 rfl) ?_
  refine lv_aload_n hx hb dL_law_399 rfl (lv_at hl 0 rfl) ?_
  refine lv_iload_n hx hb dL_law_400 rfl (lv_at hl 3 rfl) ?_
  refine lv_iconst (v := 1) hx hb dL_law_401 (by decide) ?_
  refine lv_iadd hx hb dL_law_402 ?_
  refine va_sld hx hb hX hbl hbA hS h1 dL_law_403 ?_
  refine lv_aload_n hx hb dL_law_404 rfl (lv_at hl 0 rfl) ?_
  refine lv_iload_n hx hb dL_law_405 rfl (lv_at hl 3 rfl) ?_
  refine lv_iconst (v := 2) hx hb dL_law_406 (by decide) ?_
  refine lv_iadd hx hb dL_law_407 ?_
  refine va_sld hx hb hX hbl hbA hS h2 dL_law_408 ?_
  refine lv_aload_n hx hb dL_law_409 rfl (lv_at hl 0 rfl) ?_
  refine lv_iload_n hx hb dL_law_410 rfl (lv_at hl 3 rfl) ?_
  refine lv_iconst (v := 3) hx hb dL_law_411 (by decide) ?_
  refine lv_iadd hx hb dL_law_412 ?_
  refine va_sld hx hb hX hbl hbA hS h3 dL_law_413 ?_
  refine qn_pub (a := 55) (as := [.int (xs (i + 1).toNatClampNeg), .int (xs (i + 2).toNatClampNeg), .int (xs (i + 3).toNatClampNeg)]) (rest := [.int x]) hx hb hml hown hGw ql_X9_lot hO9 rfl rfl rfl (Nat.le_of_ble_eq_true rfl) ⟨(Nat.le_of_ble_eq_true rfl), (Nat.le_of_ble_eq_true rfl)⟩ hcs dL_law_414 hl.1 hK hP hD hS hA hE (fun H locs hP hD hS => ?_)
  refine lv_icmp_eq (tgt := 1353) hx hb dL_law_417 (by decide) (fun _ => ?_) (fun hc => absurd rfl hc)
  exact kk σ2 G' H locs hG' hC2 hM2 hP hD hS

set_option maxHeartbeats 1000000 in
theorem ql_c6 {p : Program} {l : Launch} {e : Env} {s : State} {m : MethodId} {below : List Frame} {meth : Method} {c : Code} {b L : Nat} {xs : Nat → Int32} {α : Nat → Nat} {cA cR : ClassId} {D : va_G} {Q : State → Prop} {H : Heap} {locs : List Loc} {cells slots : Nat} {σ : qm_St} {G : gg_T} {i : Int32} {ls : Array Slot} (LW : qn_Lw p s m c b L xs α cA cR D) (hG : gg_ok G) (hC : CG σ G) (hM : MG σ G) (h1 : vp_in (i + 1) L) (h2 : vp_in (i + 2) L) (h3 : vp_in (i + 3) L) (h4 : vp_in (i + 4) L) (h5 : vp_in (i + 5) L) (h6 : vp_in (i + 6) L) (hl : lv_has ls 4 [(0, .ref b), (1, .ref (α 54)), (2, .ref (α 55)), (3, .int i)]) (hP : va_P D vwCl (qm_W α cA cR qm_lay σ) H) (hD : va_D (fun q => s.heap.size ≤ q) (qm_W α cA cR qm_lay σ)) (hS : va_S (fun q => s.heap.size ≤ q) s.heap H locs) (hcs : cells ≤ room_1.cells ∧ slots ≤ room_1.slots)
    (kk : ∀ (σ' : qm_St) (G' : gg_T) (H1 : Heap) (locs1 : List Loc), gg_ok G' → CG σ' G' → MG σ' G' → va_P D vwCl (qm_W α cA cR qm_lay σ') H1 → va_D (fun q => s.heap.size ≤ q) (qm_W α cA cR qm_lay σ') → va_S (fun q => s.heap.size ≤ q) s.heap H1 locs1 → W p l e room_1 s m #[Value.ref b] below meth c H1 locs1 cells slots Q (F0 m 1353 ls [])) :
    W p l e room_1 s m #[Value.ref b] below meth c H locs cells slots Q (F0 m 422 ls []) := by
  obtain ⟨hx, hb, hml, hown, hGw, hX, hbl, hK, hE⟩ := LW
  have hA : ∀ q : Nat, s.heap.size ≤ q → (fun q : Nat => s.heap.size ≤ q) q := fun _ h => h
  have hbA : ¬ (fun q : Nat => s.heap.size ≤ q) b := Nat.not_le.mpr hbl
  obtain ⟨T, X, P, Im, S⟩ := G
  obtain ⟨r, G', hG', h8, h9⟩ := j_told hG (xs (i + 1).toNatClampNeg) (xs (i + 2).toNatClampNeg)
  obtain ⟨σ1, hO8, hC1, hs1⟩ := h8 σ hC
  obtain ⟨σ2, hO9, hM2, hs2⟩ := h9 σ1 (hM.smC hs1)
  have hC2 := hC1.smM hG' hs2
  obtain ⟨x, rfl⟩ := qn_okI hO8 rfl
  refine lv_aload_n hx hb dL_law_422 rfl (lv_at hl 1 rfl) ?_
  refine lv_aload_n hx hb dL_law_423 rfl (lv_at hl 0 rfl) ?_
  refine lv_iload_n hx hb dL_law_424 rfl (lv_at hl 3 rfl) ?_
  refine lv_iconst (v := 1) hx hb dL_law_425 (by decide) ?_
  refine lv_iadd hx hb dL_law_426 ?_
  refine va_sld hx hb hX hbl hbA hS h1 dL_law_427 ?_
  refine lv_aload_n hx hb dL_law_428 rfl (lv_at hl 0 rfl) ?_
  refine lv_iload_n hx hb dL_law_429 rfl (lv_at hl 3 rfl) ?_
  refine lv_iconst (v := 2) hx hb dL_law_430 (by decide) ?_
  refine lv_iadd hx hb dL_law_431 ?_
  refine va_sld hx hb hX hbl hbA hS h2 dL_law_432 ?_
  refine qn_pub (a := 54) (as := [.int (xs (i + 1).toNatClampNeg), .int (xs (i + 2).toNatClampNeg)]) (rest := []) hx hb hml hown hGw ql_X8_told hO8 rfl rfl rfl (Nat.le_of_ble_eq_true rfl) ⟨(Nat.le_of_ble_eq_true rfl), (Nat.le_of_ble_eq_true rfl)⟩ hcs dL_law_433 hl.1 hK hP hD hS hA hE (fun H locs hP hD hS => ?_)
  refine lv_aload_n hx hb dL_law_436 rfl (lv_at hl 2 rfl) ?_
  refine lv_aload_n hx hb dL_law_437 rfl (lv_at hl 0 rfl) ?_
  refine lv_iload_n hx hb dL_law_438 rfl (lv_at hl 3 rfl) ?_
  refine lv_iconst (v := 1) hx hb dL_law_439 (by decide) ?_
  refine lv_iadd hx hb dL_law_440 ?_
  refine va_sld hx hb hX hbl hbA hS h1 dL_law_441 ?_
  refine lv_aload_n hx hb dL_law_442 rfl (lv_at hl 0 rfl) ?_
  refine lv_iload_n hx hb dL_law_443 rfl (lv_at hl 3 rfl) ?_
  refine lv_iconst (v := 2) hx hb dL_law_444 (by decide) ?_
  refine lv_iadd hx hb dL_law_445 ?_
  refine va_sld hx hb hX hbl hbA hS h2 dL_law_446 ?_
  refine qn_pub (a := 55) (as := [.int (xs (i + 1).toNatClampNeg), .int (xs (i + 2).toNatClampNeg)]) (rest := [.int x]) hx hb hml hown hGw ql_X9_told hO9 rfl rfl rfl (Nat.le_of_ble_eq_true rfl) ⟨(Nat.le_of_ble_eq_true rfl), (Nat.le_of_ble_eq_true rfl)⟩ hcs dL_law_447 hl.1 hK hP hD hS hA hE (fun H locs hP hD hS => ?_)
  refine lv_icmp_eq (tgt := 1353) hx hb dL_law_450 (by decide) (fun _ => ?_) (fun hc => absurd rfl hc)
  exact kk σ2 G' H locs hG' hC2 hM2 hP hD hS

set_option maxHeartbeats 1000000 in
theorem ql_c7 {p : Program} {l : Launch} {e : Env} {s : State} {m : MethodId} {below : List Frame} {meth : Method} {c : Code} {b L : Nat} {xs : Nat → Int32} {α : Nat → Nat} {cA cR : ClassId} {D : va_G} {Q : State → Prop} {H : Heap} {locs : List Loc} {cells slots : Nat} {σ : qm_St} {G : gg_T} {i : Int32} {ls : Array Slot} (LW : qn_Lw p s m c b L xs α cA cR D) (hG : gg_ok G) (hC : CG σ G) (hM : MG σ G) (h1 : vp_in (i + 1) L) (h2 : vp_in (i + 2) L) (h3 : vp_in (i + 3) L) (h4 : vp_in (i + 4) L) (h5 : vp_in (i + 5) L) (h6 : vp_in (i + 6) L) (hl : lv_has ls 4 [(0, .ref b), (1, .ref (α 54)), (2, .ref (α 55)), (3, .int i)]) (hP : va_P D vwCl (qm_W α cA cR qm_lay σ) H) (hD : va_D (fun q => s.heap.size ≤ q) (qm_W α cA cR qm_lay σ)) (hS : va_S (fun q => s.heap.size ≤ q) s.heap H locs) (hcs : cells ≤ room_1.cells ∧ slots ≤ room_1.slots)
    (kk : ∀ (σ' : qm_St) (G' : gg_T) (H1 : Heap) (locs1 : List Loc), gg_ok G' → CG σ' G' → MG σ' G' → va_P D vwCl (qm_W α cA cR qm_lay σ') H1 → va_D (fun q => s.heap.size ≤ q) (qm_W α cA cR qm_lay σ') → va_S (fun q => s.heap.size ≤ q) s.heap H1 locs1 → W p l e room_1 s m #[Value.ref b] below meth c H1 locs1 cells slots Q (F0 m 1353 ls [])) :
    W p l e room_1 s m #[Value.ref b] below meth c H locs cells slots Q (F0 m 455 ls []) := by
  obtain ⟨hx, hb, hml, hown, hGw, hX, hbl, hK, hE⟩ := LW
  have hA : ∀ q : Nat, s.heap.size ≤ q → (fun q : Nat => s.heap.size ≤ q) q := fun _ h => h
  have hbA : ¬ (fun q : Nat => s.heap.size ≤ q) b := Nat.not_le.mpr hbl
  obtain ⟨T, X, P, Im, S⟩ := G
  obtain ⟨r, G', hG', h8, h9⟩ := j_build hG (xs (i + 1).toNatClampNeg)
  obtain ⟨σ1, hO8, hC1, hs1⟩ := h8 σ hC
  obtain ⟨σ2, hO9, hM2, hs2⟩ := h9 σ1 (hM.smC hs1)
  have hC2 := hC1.smM hG' hs2
  obtain ⟨x, rfl⟩ := qn_okI hO8 rfl
  refine lv_aload_n hx hb dL_law_455 rfl (lv_at hl 1 rfl) ?_
  refine lv_aload_n hx hb dL_law_456 rfl (lv_at hl 0 rfl) ?_
  refine lv_iload_n hx hb dL_law_457 rfl (lv_at hl 3 rfl) ?_
  refine lv_iconst (v := 1) hx hb dL_law_458 (by decide) ?_
  refine lv_iadd hx hb dL_law_459 ?_
  refine va_sld hx hb hX hbl hbA hS h1 dL_law_460 ?_
  refine qn_pub (a := 54) (as := [.int (xs (i + 1).toNatClampNeg)]) (rest := []) hx hb hml hown hGw ql_X8_build hO8 rfl rfl rfl (Nat.le_of_ble_eq_true rfl) ⟨(Nat.le_of_ble_eq_true rfl), (Nat.le_of_ble_eq_true rfl)⟩ hcs dL_law_461 hl.1 hK hP hD hS hA hE (fun H locs hP hD hS => ?_)
  refine lv_aload_n hx hb dL_law_464 rfl (lv_at hl 2 rfl) ?_
  refine lv_aload_n hx hb dL_law_465 rfl (lv_at hl 0 rfl) ?_
  refine lv_iload_n hx hb dL_law_466 rfl (lv_at hl 3 rfl) ?_
  refine lv_iconst (v := 1) hx hb dL_law_467 (by decide) ?_
  refine lv_iadd hx hb dL_law_468 ?_
  refine va_sld hx hb hX hbl hbA hS h1 dL_law_469 ?_
  refine qn_pub (a := 55) (as := [.int (xs (i + 1).toNatClampNeg)]) (rest := [.int x]) hx hb hml hown hGw ql_X9_build hO9 rfl rfl rfl (Nat.le_of_ble_eq_true rfl) ⟨(Nat.le_of_ble_eq_true rfl), (Nat.le_of_ble_eq_true rfl)⟩ hcs dL_law_470 hl.1 hK hP hD hS hA hE (fun H locs hP hD hS => ?_)
  refine lv_icmp_eq (tgt := 1353) hx hb dL_law_473 (by decide) (fun _ => ?_) (fun hc => absurd rfl hc)
  exact kk σ2 G' H locs hG' hC2 hM2 hP hD hS

set_option maxHeartbeats 1000000 in
theorem ql_c8 {p : Program} {l : Launch} {e : Env} {s : State} {m : MethodId} {below : List Frame} {meth : Method} {c : Code} {b L : Nat} {xs : Nat → Int32} {α : Nat → Nat} {cA cR : ClassId} {D : va_G} {Q : State → Prop} {H : Heap} {locs : List Loc} {cells slots : Nat} {σ : qm_St} {G : gg_T} {i : Int32} {ls : Array Slot} (LW : qn_Lw p s m c b L xs α cA cR D) (hG : gg_ok G) (hC : CG σ G) (hM : MG σ G) (h1 : vp_in (i + 1) L) (h2 : vp_in (i + 2) L) (h3 : vp_in (i + 3) L) (h4 : vp_in (i + 4) L) (h5 : vp_in (i + 5) L) (h6 : vp_in (i + 6) L) (hl : lv_has ls 4 [(0, .ref b), (1, .ref (α 54)), (2, .ref (α 55)), (3, .int i)]) (hP : va_P D vwCl (qm_W α cA cR qm_lay σ) H) (hD : va_D (fun q => s.heap.size ≤ q) (qm_W α cA cR qm_lay σ)) (hS : va_S (fun q => s.heap.size ≤ q) s.heap H locs) (hcs : cells ≤ room_1.cells ∧ slots ≤ room_1.slots)
    (kk : ∀ (σ' : qm_St) (G' : gg_T) (H1 : Heap) (locs1 : List Loc), gg_ok G' → CG σ' G' → MG σ' G' → va_P D vwCl (qm_W α cA cR qm_lay σ') H1 → va_D (fun q => s.heap.size ≤ q) (qm_W α cA cR qm_lay σ') → va_S (fun q => s.heap.size ≤ q) s.heap H1 locs1 → W p l e room_1 s m #[Value.ref b] below meth c H1 locs1 cells slots Q (F0 m 1353 ls [])) :
    W p l e room_1 s m #[Value.ref b] below meth c H locs cells slots Q (F0 m 478 ls []) := by
  obtain ⟨hx, hb, hml, hown, hGw, hX, hbl, hK, hE⟩ := LW
  have hA : ∀ q : Nat, s.heap.size ≤ q → (fun q : Nat => s.heap.size ≤ q) q := fun _ h => h
  have hbA : ¬ (fun q : Nat => s.heap.size ≤ q) b := Nat.not_le.mpr hbl
  obtain ⟨T, X, P, Im, S⟩ := G
  obtain ⟨r, G', hG', h8, h9⟩ := j_would hG (xs (i + 1).toNatClampNeg)
  obtain ⟨σ1, hO8, hC1, hs1⟩ := h8 σ hC
  obtain ⟨σ2, hO9, hM2, hs2⟩ := h9 σ1 (hM.smC hs1)
  have hC2 := hC1.smM hG' hs2
  obtain ⟨x, rfl⟩ := qn_okI hO8 rfl
  refine lv_aload_n hx hb dL_law_478 rfl (lv_at hl 1 rfl) ?_
  refine lv_aload_n hx hb dL_law_479 rfl (lv_at hl 0 rfl) ?_
  refine lv_iload_n hx hb dL_law_480 rfl (lv_at hl 3 rfl) ?_
  refine lv_iconst (v := 1) hx hb dL_law_481 (by decide) ?_
  refine lv_iadd hx hb dL_law_482 ?_
  refine va_sld hx hb hX hbl hbA hS h1 dL_law_483 ?_
  refine qn_pub (a := 54) (as := [.int (xs (i + 1).toNatClampNeg)]) (rest := []) hx hb hml hown hGw ql_X8_would hO8 rfl rfl rfl (Nat.le_of_ble_eq_true rfl) ⟨(Nat.le_of_ble_eq_true rfl), (Nat.le_of_ble_eq_true rfl)⟩ hcs dL_law_484 hl.1 hK hP hD hS hA hE (fun H locs hP hD hS => ?_)
  refine lv_aload_n hx hb dL_law_487 rfl (lv_at hl 2 rfl) ?_
  refine lv_aload_n hx hb dL_law_488 rfl (lv_at hl 0 rfl) ?_
  refine lv_iload_n hx hb dL_law_489 rfl (lv_at hl 3 rfl) ?_
  refine lv_iconst (v := 1) hx hb dL_law_490 (by decide) ?_
  refine lv_iadd hx hb dL_law_491 ?_
  refine va_sld hx hb hX hbl hbA hS h1 dL_law_492 ?_
  refine qn_pub (a := 55) (as := [.int (xs (i + 1).toNatClampNeg)]) (rest := [.int x]) hx hb hml hown hGw ql_X9_would hO9 rfl rfl rfl (Nat.le_of_ble_eq_true rfl) ⟨(Nat.le_of_ble_eq_true rfl), (Nat.le_of_ble_eq_true rfl)⟩ hcs dL_law_493 hl.1 hK hP hD hS hA hE (fun H locs hP hD hS => ?_)
  refine lv_icmp_eq (tgt := 1353) hx hb dL_law_496 (by decide) (fun _ => ?_) (fun hc => absurd rfl hc)
  exact kk σ2 G' H locs hG' hC2 hM2 hP hD hS

set_option maxHeartbeats 1000000 in
theorem ql_c9 {p : Program} {l : Launch} {e : Env} {s : State} {m : MethodId} {below : List Frame} {meth : Method} {c : Code} {b L : Nat} {xs : Nat → Int32} {α : Nat → Nat} {cA cR : ClassId} {D : va_G} {Q : State → Prop} {H : Heap} {locs : List Loc} {cells slots : Nat} {σ : qm_St} {G : gg_T} {i : Int32} {ls : Array Slot} (LW : qn_Lw p s m c b L xs α cA cR D) (hG : gg_ok G) (hC : CG σ G) (hM : MG σ G) (h1 : vp_in (i + 1) L) (h2 : vp_in (i + 2) L) (h3 : vp_in (i + 3) L) (h4 : vp_in (i + 4) L) (h5 : vp_in (i + 5) L) (h6 : vp_in (i + 6) L) (hl : lv_has ls 4 [(0, .ref b), (1, .ref (α 54)), (2, .ref (α 55)), (3, .int i)]) (hP : va_P D vwCl (qm_W α cA cR qm_lay σ) H) (hD : va_D (fun q => s.heap.size ≤ q) (qm_W α cA cR qm_lay σ)) (hS : va_S (fun q => s.heap.size ≤ q) s.heap H locs) (hcs : cells ≤ room_1.cells ∧ slots ≤ room_1.slots)
    (kk : ∀ (σ' : qm_St) (G' : gg_T) (H1 : Heap) (locs1 : List Loc), gg_ok G' → CG σ' G' → MG σ' G' → va_P D vwCl (qm_W α cA cR qm_lay σ') H1 → va_D (fun q => s.heap.size ≤ q) (qm_W α cA cR qm_lay σ') → va_S (fun q => s.heap.size ≤ q) s.heap H1 locs1 → W p l e room_1 s m #[Value.ref b] below meth c H1 locs1 cells slots Q (F0 m 1353 ls [])) :
    W p l e room_1 s m #[Value.ref b] below meth c H locs cells slots Q (F0 m 501 ls []) := by
  obtain ⟨hx, hb, hml, hown, hGw, hX, hbl, hK, hE⟩ := LW
  have hA : ∀ q : Nat, s.heap.size ≤ q → (fun q : Nat => s.heap.size ≤ q) q := fun _ h => h
  have hbA : ¬ (fun q : Nat => s.heap.size ≤ q) b := Nat.not_le.mpr hbl
  obtain ⟨T, X, P, Im, S⟩ := G
  obtain ⟨r, G', hG', h8, h9⟩ := j_pull hG (xs (i + 1).toNatClampNeg)
  obtain ⟨σ1, hO8, hC1, hs1⟩ := h8 σ hC
  obtain ⟨σ2, hO9, hM2, hs2⟩ := h9 σ1 (hM.smC hs1)
  have hC2 := hC1.smM hG' hs2
  obtain ⟨x, rfl⟩ := qn_okI hO8 rfl
  refine lv_aload_n hx hb dL_law_501 rfl (lv_at hl 1 rfl) ?_
  refine lv_aload_n hx hb dL_law_502 rfl (lv_at hl 0 rfl) ?_
  refine lv_iload_n hx hb dL_law_503 rfl (lv_at hl 3 rfl) ?_
  refine lv_iconst (v := 1) hx hb dL_law_504 (by decide) ?_
  refine lv_iadd hx hb dL_law_505 ?_
  refine va_sld hx hb hX hbl hbA hS h1 dL_law_506 ?_
  refine qn_pub (a := 54) (as := [.int (xs (i + 1).toNatClampNeg)]) (rest := []) hx hb hml hown hGw ql_X8_pull hO8 rfl rfl rfl (Nat.le_of_ble_eq_true rfl) ⟨(Nat.le_of_ble_eq_true rfl), (Nat.le_of_ble_eq_true rfl)⟩ hcs dL_law_507 hl.1 hK hP hD hS hA hE (fun H locs hP hD hS => ?_)
  refine lv_aload_n hx hb dL_law_510 rfl (lv_at hl 2 rfl) ?_
  refine lv_aload_n hx hb dL_law_511 rfl (lv_at hl 0 rfl) ?_
  refine lv_iload_n hx hb dL_law_512 rfl (lv_at hl 3 rfl) ?_
  refine lv_iconst (v := 1) hx hb dL_law_513 (by decide) ?_
  refine lv_iadd hx hb dL_law_514 ?_
  refine va_sld hx hb hX hbl hbA hS h1 dL_law_515 ?_
  refine qn_pub (a := 55) (as := [.int (xs (i + 1).toNatClampNeg)]) (rest := [.int x]) hx hb hml hown hGw ql_X9_pull hO9 rfl rfl rfl (Nat.le_of_ble_eq_true rfl) ⟨(Nat.le_of_ble_eq_true rfl), (Nat.le_of_ble_eq_true rfl)⟩ hcs dL_law_516 hl.1 hK hP hD hS hA hE (fun H locs hP hD hS => ?_)
  refine lv_icmp_eq (tgt := 1353) hx hb dL_law_519 (by decide) (fun _ => ?_) (fun hc => absurd rfl hc)
  exact kk σ2 G' H locs hG' hC2 hM2 hP hD hS

set_option maxHeartbeats 1000000 in
theorem ql_c10 {p : Program} {l : Launch} {e : Env} {s : State} {m : MethodId} {below : List Frame} {meth : Method} {c : Code} {b L : Nat} {xs : Nat → Int32} {α : Nat → Nat} {cA cR : ClassId} {D : va_G} {Q : State → Prop} {H : Heap} {locs : List Loc} {cells slots : Nat} {σ : qm_St} {G : gg_T} {i : Int32} {ls : Array Slot} (LW : qn_Lw p s m c b L xs α cA cR D) (hG : gg_ok G) (hC : CG σ G) (hM : MG σ G) (h1 : vp_in (i + 1) L) (h2 : vp_in (i + 2) L) (h3 : vp_in (i + 3) L) (h4 : vp_in (i + 4) L) (h5 : vp_in (i + 5) L) (h6 : vp_in (i + 6) L) (hl : lv_has ls 4 [(0, .ref b), (1, .ref (α 54)), (2, .ref (α 55)), (3, .int i)]) (hP : va_P D vwCl (qm_W α cA cR qm_lay σ) H) (hD : va_D (fun q => s.heap.size ≤ q) (qm_W α cA cR qm_lay σ)) (hS : va_S (fun q => s.heap.size ≤ q) s.heap H locs) (hcs : cells ≤ room_1.cells ∧ slots ≤ room_1.slots)
    (kk : ∀ (σ' : qm_St) (G' : gg_T) (H1 : Heap) (locs1 : List Loc), gg_ok G' → CG σ' G' → MG σ' G' → va_P D vwCl (qm_W α cA cR qm_lay σ') H1 → va_D (fun q => s.heap.size ≤ q) (qm_W α cA cR qm_lay σ') → va_S (fun q => s.heap.size ≤ q) s.heap H1 locs1 → W p l e room_1 s m #[Value.ref b] below meth c H1 locs1 cells slots Q (F0 m 1353 ls [])) :
    W p l e room_1 s m #[Value.ref b] below meth c H locs cells slots Q (F0 m 524 ls []) := by
  obtain ⟨hx, hb, hml, hown, hGw, hX, hbl, hK, hE⟩ := LW
  have hA : ∀ q : Nat, s.heap.size ≤ q → (fun q : Nat => s.heap.size ≤ q) q := fun _ h => h
  have hbA : ¬ (fun q : Nat => s.heap.size ≤ q) b := Nat.not_le.mpr hbl
  obtain ⟨T, X, P, Im, S⟩ := G
  obtain ⟨r, G', hG', h8, h9⟩ := j_paint hG (xs (i + 1).toNatClampNeg) (xs (i + 2).toNatClampNeg)
  obtain ⟨σ1, hO8, hC1, hs1⟩ := h8 σ hC
  obtain ⟨σ2, hO9, hM2, hs2⟩ := h9 σ1 (hM.smC hs1)
  have hC2 := hC1.smM hG' hs2
  obtain ⟨x, rfl⟩ := qn_okI hO8 rfl
  refine lv_aload_n hx hb dL_law_524 rfl (lv_at hl 1 rfl) ?_
  refine lv_aload_n hx hb dL_law_525 rfl (lv_at hl 0 rfl) ?_
  refine lv_iload_n hx hb dL_law_526 rfl (lv_at hl 3 rfl) ?_
  refine lv_iconst (v := 1) hx hb dL_law_527 (by decide) ?_
  refine lv_iadd hx hb dL_law_528 ?_
  refine va_sld hx hb hX hbl hbA hS h1 dL_law_529 ?_
  refine lv_aload_n hx hb dL_law_530 rfl (lv_at hl 0 rfl) ?_
  refine lv_iload_n hx hb dL_law_531 rfl (lv_at hl 3 rfl) ?_
  refine lv_iconst (v := 2) hx hb dL_law_532 (by decide) ?_
  refine lv_iadd hx hb dL_law_533 ?_
  refine va_sld hx hb hX hbl hbA hS h2 dL_law_534 ?_
  refine qn_pub (a := 54) (as := [.int (xs (i + 1).toNatClampNeg), .int (xs (i + 2).toNatClampNeg)]) (rest := []) hx hb hml hown hGw ql_X8_paint hO8 rfl rfl rfl (Nat.le_of_ble_eq_true rfl) ⟨(Nat.le_of_ble_eq_true rfl), (Nat.le_of_ble_eq_true rfl)⟩ hcs dL_law_535 hl.1 hK hP hD hS hA hE (fun H locs hP hD hS => ?_)
  refine lv_aload_n hx hb dL_law_538 rfl (lv_at hl 2 rfl) ?_
  refine lv_aload_n hx hb dL_law_539 rfl (lv_at hl 0 rfl) ?_
  refine lv_iload_n hx hb dL_law_540 rfl (lv_at hl 3 rfl) ?_
  refine lv_iconst (v := 1) hx hb dL_law_541 (by decide) ?_
  refine lv_iadd hx hb dL_law_542 ?_
  refine va_sld hx hb hX hbl hbA hS h1 dL_law_543 ?_
  refine lv_aload_n hx hb dL_law_544 rfl (lv_at hl 0 rfl) ?_
  refine lv_iload_n hx hb dL_law_545 rfl (lv_at hl 3 rfl) ?_
  refine lv_iconst (v := 2) hx hb dL_law_546 (by decide) ?_
  refine lv_iadd hx hb dL_law_547 ?_
  refine va_sld hx hb hX hbl hbA hS h2 dL_law_548 ?_
  refine qn_pub (a := 55) (as := [.int (xs (i + 1).toNatClampNeg), .int (xs (i + 2).toNatClampNeg)]) (rest := [.int x]) hx hb hml hown hGw ql_X9_paint hO9 rfl rfl rfl (Nat.le_of_ble_eq_true rfl) ⟨(Nat.le_of_ble_eq_true rfl), (Nat.le_of_ble_eq_true rfl)⟩ hcs dL_law_549 hl.1 hK hP hD hS hA hE (fun H locs hP hD hS => ?_)
  refine lv_icmp_eq (tgt := 1353) hx hb dL_law_552 (by decide) (fun _ => ?_) (fun hc => absurd rfl hc)
  exact kk σ2 G' H locs hG' hC2 hM2 hP hD hS

set_option maxHeartbeats 1000000 in
theorem ql_c11 {p : Program} {l : Launch} {e : Env} {s : State} {m : MethodId} {below : List Frame} {meth : Method} {c : Code} {b L : Nat} {xs : Nat → Int32} {α : Nat → Nat} {cA cR : ClassId} {D : va_G} {Q : State → Prop} {H : Heap} {locs : List Loc} {cells slots : Nat} {σ : qm_St} {G : gg_T} {i : Int32} {ls : Array Slot} (LW : qn_Lw p s m c b L xs α cA cR D) (hG : gg_ok G) (hC : CG σ G) (hM : MG σ G) (h1 : vp_in (i + 1) L) (h2 : vp_in (i + 2) L) (h3 : vp_in (i + 3) L) (h4 : vp_in (i + 4) L) (h5 : vp_in (i + 5) L) (h6 : vp_in (i + 6) L) (hl : lv_has ls 4 [(0, .ref b), (1, .ref (α 54)), (2, .ref (α 55)), (3, .int i)]) (hP : va_P D vwCl (qm_W α cA cR qm_lay σ) H) (hD : va_D (fun q => s.heap.size ≤ q) (qm_W α cA cR qm_lay σ)) (hS : va_S (fun q => s.heap.size ≤ q) s.heap H locs) (hcs : cells ≤ room_1.cells ∧ slots ≤ room_1.slots)
    (kk : ∀ (σ' : qm_St) (G' : gg_T) (H1 : Heap) (locs1 : List Loc), gg_ok G' → CG σ' G' → MG σ' G' → va_P D vwCl (qm_W α cA cR qm_lay σ') H1 → va_D (fun q => s.heap.size ≤ q) (qm_W α cA cR qm_lay σ') → va_S (fun q => s.heap.size ≤ q) s.heap H1 locs1 → W p l e room_1 s m #[Value.ref b] below meth c H1 locs1 cells slots Q (F0 m 1353 ls [])) :
    W p l e room_1 s m #[Value.ref b] below meth c H locs cells slots Q (F0 m 557 ls []) := by
  obtain ⟨hx, hb, hml, hown, hGw, hX, hbl, hK, hE⟩ := LW
  have hA : ∀ q : Nat, s.heap.size ≤ q → (fun q : Nat => s.heap.size ≤ q) q := fun _ h => h
  have hbA : ¬ (fun q : Nat => s.heap.size ≤ q) b := Nat.not_le.mpr hbl
  obtain ⟨T, X, P, Im, S⟩ := G
  obtain ⟨r, G', hG', h8, h9⟩ := j_lane hG (xs (i + 1).toNatClampNeg) (xs (i + 2).toNatClampNeg)
  obtain ⟨σ1, hO8, hC1, hs1⟩ := h8 σ hC
  obtain ⟨σ2, hO9, hM2, hs2⟩ := h9 σ1 (hM.smC hs1)
  have hC2 := hC1.smM hG' hs2
  obtain ⟨x, rfl⟩ := qn_okI hO8 rfl
  refine lv_aload_n hx hb dL_law_557 rfl (lv_at hl 1 rfl) ?_
  refine lv_aload_n hx hb dL_law_558 rfl (lv_at hl 0 rfl) ?_
  refine lv_iload_n hx hb dL_law_559 rfl (lv_at hl 3 rfl) ?_
  refine lv_iconst (v := 1) hx hb dL_law_560 (by decide) ?_
  refine lv_iadd hx hb dL_law_561 ?_
  refine va_sld hx hb hX hbl hbA hS h1 dL_law_562 ?_
  refine lv_aload_n hx hb dL_law_563 rfl (lv_at hl 0 rfl) ?_
  refine lv_iload_n hx hb dL_law_564 rfl (lv_at hl 3 rfl) ?_
  refine lv_iconst (v := 2) hx hb dL_law_565 (by decide) ?_
  refine lv_iadd hx hb dL_law_566 ?_
  refine va_sld hx hb hX hbl hbA hS h2 dL_law_567 ?_
  refine qn_pub (a := 54) (as := [.int (xs (i + 1).toNatClampNeg), .int (xs (i + 2).toNatClampNeg)]) (rest := []) hx hb hml hown hGw ql_X8_lane hO8 rfl rfl rfl (Nat.le_of_ble_eq_true rfl) ⟨(Nat.le_of_ble_eq_true rfl), (Nat.le_of_ble_eq_true rfl)⟩ hcs dL_law_568 hl.1 hK hP hD hS hA hE (fun H locs hP hD hS => ?_)
  refine lv_aload_n hx hb dL_law_571 rfl (lv_at hl 2 rfl) ?_
  refine lv_aload_n hx hb dL_law_572 rfl (lv_at hl 0 rfl) ?_
  refine lv_iload_n hx hb dL_law_573 rfl (lv_at hl 3 rfl) ?_
  refine lv_iconst (v := 1) hx hb dL_law_574 (by decide) ?_
  refine lv_iadd hx hb dL_law_575 ?_
  refine va_sld hx hb hX hbl hbA hS h1 dL_law_576 ?_
  refine lv_aload_n hx hb dL_law_577 rfl (lv_at hl 0 rfl) ?_
  refine lv_iload_n hx hb dL_law_578 rfl (lv_at hl 3 rfl) ?_
  refine lv_iconst (v := 2) hx hb dL_law_579 (by decide) ?_
  refine lv_iadd hx hb dL_law_580 ?_
  refine va_sld hx hb hX hbl hbA hS h2 dL_law_581 ?_
  refine qn_pub (a := 55) (as := [.int (xs (i + 1).toNatClampNeg), .int (xs (i + 2).toNatClampNeg)]) (rest := [.int x]) hx hb hml hown hGw ql_X9_lane hO9 rfl rfl rfl (Nat.le_of_ble_eq_true rfl) ⟨(Nat.le_of_ble_eq_true rfl), (Nat.le_of_ble_eq_true rfl)⟩ hcs dL_law_582 hl.1 hK hP hD hS hA hE (fun H locs hP hD hS => ?_)
  refine lv_icmp_eq (tgt := 1353) hx hb dL_law_585 (by decide) (fun _ => ?_) (fun hc => absurd rfl hc)
  exact kk σ2 G' H locs hG' hC2 hM2 hP hD hS

set_option maxHeartbeats 1000000 in
theorem ql_c12 {p : Program} {l : Launch} {e : Env} {s : State} {m : MethodId} {below : List Frame} {meth : Method} {c : Code} {b L : Nat} {xs : Nat → Int32} {α : Nat → Nat} {cA cR : ClassId} {D : va_G} {Q : State → Prop} {H : Heap} {locs : List Loc} {cells slots : Nat} {σ : qm_St} {G : gg_T} {i : Int32} {ls : Array Slot} (LW : qn_Lw p s m c b L xs α cA cR D) (hG : gg_ok G) (hC : CG σ G) (hM : MG σ G) (h1 : vp_in (i + 1) L) (h2 : vp_in (i + 2) L) (h3 : vp_in (i + 3) L) (h4 : vp_in (i + 4) L) (h5 : vp_in (i + 5) L) (h6 : vp_in (i + 6) L) (hl : lv_has ls 4 [(0, .ref b), (1, .ref (α 54)), (2, .ref (α 55)), (3, .int i)]) (hP : va_P D vwCl (qm_W α cA cR qm_lay σ) H) (hD : va_D (fun q => s.heap.size ≤ q) (qm_W α cA cR qm_lay σ)) (hS : va_S (fun q => s.heap.size ≤ q) s.heap H locs) (hcs : cells ≤ room_1.cells ∧ slots ≤ room_1.slots)
    (kk : ∀ (σ' : qm_St) (G' : gg_T) (H1 : Heap) (locs1 : List Loc), gg_ok G' → CG σ' G' → MG σ' G' → va_P D vwCl (qm_W α cA cR qm_lay σ') H1 → va_D (fun q => s.heap.size ≤ q) (qm_W α cA cR qm_lay σ') → va_S (fun q => s.heap.size ≤ q) s.heap H1 locs1 → W p l e room_1 s m #[Value.ref b] below meth c H1 locs1 cells slots Q (F0 m 1353 ls [])) :
    W p l e room_1 s m #[Value.ref b] below meth c H locs cells slots Q (F0 m 590 ls []) := by
  obtain ⟨hx, hb, hml, hown, hGw, hX, hbl, hK, hE⟩ := LW
  have hA : ∀ q : Nat, s.heap.size ≤ q → (fun q : Nat => s.heap.size ≤ q) q := fun _ h => h
  have hbA : ¬ (fun q : Nat => s.heap.size ≤ q) b := Nat.not_le.mpr hbl
  obtain ⟨T, X, P, Im, S⟩ := G
  obtain ⟨r, G', hG', h8, h9⟩ := j_close hG (xs (i + 1).toNatClampNeg) (xs (i + 2).toNatClampNeg)
  obtain ⟨σ1, hO8, hC1, hs1⟩ := h8 σ hC
  obtain ⟨σ2, hO9, hM2, hs2⟩ := h9 σ1 (hM.smC hs1)
  have hC2 := hC1.smM hG' hs2
  obtain ⟨x, rfl⟩ := qn_okI hO8 rfl
  refine lv_aload_n hx hb dL_law_590 rfl (lv_at hl 1 rfl) ?_
  refine lv_aload_n hx hb dL_law_591 rfl (lv_at hl 0 rfl) ?_
  refine lv_iload_n hx hb dL_law_592 rfl (lv_at hl 3 rfl) ?_
  refine lv_iconst (v := 1) hx hb dL_law_593 (by decide) ?_
  refine lv_iadd hx hb dL_law_594 ?_
  refine va_sld hx hb hX hbl hbA hS h1 dL_law_595 ?_
  refine lv_aload_n hx hb dL_law_596 rfl (lv_at hl 0 rfl) ?_
  refine lv_iload_n hx hb dL_law_597 rfl (lv_at hl 3 rfl) ?_
  refine lv_iconst (v := 2) hx hb dL_law_598 (by decide) ?_
  refine lv_iadd hx hb dL_law_599 ?_
  refine va_sld hx hb hX hbl hbA hS h2 dL_law_600 ?_
  refine qn_pub (a := 54) (as := [.int (xs (i + 1).toNatClampNeg), .int (xs (i + 2).toNatClampNeg)]) (rest := []) hx hb hml hown hGw ql_X8_close hO8 rfl rfl rfl (Nat.le_of_ble_eq_true rfl) ⟨(Nat.le_of_ble_eq_true rfl), (Nat.le_of_ble_eq_true rfl)⟩ hcs dL_law_601 hl.1 hK hP hD hS hA hE (fun H locs hP hD hS => ?_)
  refine lv_aload_n hx hb dL_law_604 rfl (lv_at hl 2 rfl) ?_
  refine lv_aload_n hx hb dL_law_605 rfl (lv_at hl 0 rfl) ?_
  refine lv_iload_n hx hb dL_law_606 rfl (lv_at hl 3 rfl) ?_
  refine lv_iconst (v := 1) hx hb dL_law_607 (by decide) ?_
  refine lv_iadd hx hb dL_law_608 ?_
  refine va_sld hx hb hX hbl hbA hS h1 dL_law_609 ?_
  refine lv_aload_n hx hb dL_law_610 rfl (lv_at hl 0 rfl) ?_
  refine lv_iload_n hx hb dL_law_611 rfl (lv_at hl 3 rfl) ?_
  refine lv_iconst (v := 2) hx hb dL_law_612 (by decide) ?_
  refine lv_iadd hx hb dL_law_613 ?_
  refine va_sld hx hb hX hbl hbA hS h2 dL_law_614 ?_
  refine qn_pub (a := 55) (as := [.int (xs (i + 1).toNatClampNeg), .int (xs (i + 2).toNatClampNeg)]) (rest := [.int x]) hx hb hml hown hGw ql_X9_close hO9 rfl rfl rfl (Nat.le_of_ble_eq_true rfl) ⟨(Nat.le_of_ble_eq_true rfl), (Nat.le_of_ble_eq_true rfl)⟩ hcs dL_law_615 hl.1 hK hP hD hS hA hE (fun H locs hP hD hS => ?_)
  refine lv_icmp_eq (tgt := 1353) hx hb dL_law_618 (by decide) (fun _ => ?_) (fun hc => absurd rfl hc)
  exact kk σ2 G' H locs hG' hC2 hM2 hP hD hS

set_option maxHeartbeats 1000000 in
theorem ql_c13 {p : Program} {l : Launch} {e : Env} {s : State} {m : MethodId} {below : List Frame} {meth : Method} {c : Code} {b L : Nat} {xs : Nat → Int32} {α : Nat → Nat} {cA cR : ClassId} {D : va_G} {Q : State → Prop} {H : Heap} {locs : List Loc} {cells slots : Nat} {σ : qm_St} {G : gg_T} {i : Int32} {ls : Array Slot} (LW : qn_Lw p s m c b L xs α cA cR D) (hG : gg_ok G) (hC : CG σ G) (hM : MG σ G) (h1 : vp_in (i + 1) L) (h2 : vp_in (i + 2) L) (h3 : vp_in (i + 3) L) (h4 : vp_in (i + 4) L) (h5 : vp_in (i + 5) L) (h6 : vp_in (i + 6) L) (hl : lv_has ls 4 [(0, .ref b), (1, .ref (α 54)), (2, .ref (α 55)), (3, .int i)]) (hP : va_P D vwCl (qm_W α cA cR qm_lay σ) H) (hD : va_D (fun q => s.heap.size ≤ q) (qm_W α cA cR qm_lay σ)) (hS : va_S (fun q => s.heap.size ≤ q) s.heap H locs) (hcs : cells ≤ room_1.cells ∧ slots ≤ room_1.slots)
    (kk : ∀ (σ' : qm_St) (G' : gg_T) (H1 : Heap) (locs1 : List Loc), gg_ok G' → CG σ' G' → MG σ' G' → va_P D vwCl (qm_W α cA cR qm_lay σ') H1 → va_D (fun q => s.heap.size ≤ q) (qm_W α cA cR qm_lay σ') → va_S (fun q => s.heap.size ≤ q) s.heap H1 locs1 → W p l e room_1 s m #[Value.ref b] below meth c H1 locs1 cells slots Q (F0 m 1353 ls [])) :
    W p l e room_1 s m #[Value.ref b] below meth c H locs cells slots Q (F0 m 623 ls []) := by
  obtain ⟨hx, hb, hml, hown, hGw, hX, hbl, hK, hE⟩ := LW
  have hA : ∀ q : Nat, s.heap.size ≤ q → (fun q : Nat => s.heap.size ≤ q) q := fun _ h => h
  have hbA : ¬ (fun q : Nat => s.heap.size ≤ q) b := Nat.not_le.mpr hbl
  obtain ⟨T, X, P, Im, S⟩ := G
  obtain ⟨r, G', hG', h8, h9⟩ := j_idle hG (xs (i + 1).toNatClampNeg)
  obtain ⟨σ1, hO8, hC1, hs1⟩ := h8 σ hC
  obtain ⟨σ2, hO9, hM2, hs2⟩ := h9 σ1 (hM.smC hs1)
  have hC2 := hC1.smM hG' hs2
  obtain ⟨x, rfl⟩ := qn_okI hO8 rfl
  refine lv_aload_n hx hb dL_law_623 rfl (lv_at hl 1 rfl) ?_
  refine lv_aload_n hx hb dL_law_624 rfl (lv_at hl 0 rfl) ?_
  refine lv_iload_n hx hb dL_law_625 rfl (lv_at hl 3 rfl) ?_
  refine lv_iconst (v := 1) hx hb dL_law_626 (by decide) ?_
  refine lv_iadd hx hb dL_law_627 ?_
  refine va_sld hx hb hX hbl hbA hS h1 dL_law_628 ?_
  refine qn_pub (a := 54) (as := [.int (xs (i + 1).toNatClampNeg)]) (rest := []) hx hb hml hown hGw ql_X8_idle hO8 rfl rfl rfl (Nat.le_of_ble_eq_true rfl) ⟨(Nat.le_of_ble_eq_true rfl), (Nat.le_of_ble_eq_true rfl)⟩ hcs dL_law_629 hl.1 hK hP hD hS hA hE (fun H locs hP hD hS => ?_)
  refine lv_aload_n hx hb dL_law_632 rfl (lv_at hl 2 rfl) ?_
  refine lv_aload_n hx hb dL_law_633 rfl (lv_at hl 0 rfl) ?_
  refine lv_iload_n hx hb dL_law_634 rfl (lv_at hl 3 rfl) ?_
  refine lv_iconst (v := 1) hx hb dL_law_635 (by decide) ?_
  refine lv_iadd hx hb dL_law_636 ?_
  refine va_sld hx hb hX hbl hbA hS h1 dL_law_637 ?_
  refine qn_pub (a := 55) (as := [.int (xs (i + 1).toNatClampNeg)]) (rest := [.int x]) hx hb hml hown hGw ql_X9_idle hO9 rfl rfl rfl (Nat.le_of_ble_eq_true rfl) ⟨(Nat.le_of_ble_eq_true rfl), (Nat.le_of_ble_eq_true rfl)⟩ hcs dL_law_638 hl.1 hK hP hD hS hA hE (fun H locs hP hD hS => ?_)
  refine lv_icmp_eq (tgt := 1353) hx hb dL_law_641 (by decide) (fun _ => ?_) (fun hc => absurd rfl hc)
  exact kk σ2 G' H locs hG' hC2 hM2 hP hD hS

set_option maxHeartbeats 1000000 in
theorem ql_c14 {p : Program} {l : Launch} {e : Env} {s : State} {m : MethodId} {below : List Frame} {meth : Method} {c : Code} {b L : Nat} {xs : Nat → Int32} {α : Nat → Nat} {cA cR : ClassId} {D : va_G} {Q : State → Prop} {H : Heap} {locs : List Loc} {cells slots : Nat} {σ : qm_St} {G : gg_T} {i : Int32} {ls : Array Slot} (LW : qn_Lw p s m c b L xs α cA cR D) (hG : gg_ok G) (hC : CG σ G) (hM : MG σ G) (h1 : vp_in (i + 1) L) (h2 : vp_in (i + 2) L) (h3 : vp_in (i + 3) L) (h4 : vp_in (i + 4) L) (h5 : vp_in (i + 5) L) (h6 : vp_in (i + 6) L) (hl : lv_has ls 4 [(0, .ref b), (1, .ref (α 54)), (2, .ref (α 55)), (3, .int i)]) (hP : va_P D vwCl (qm_W α cA cR qm_lay σ) H) (hD : va_D (fun q => s.heap.size ≤ q) (qm_W α cA cR qm_lay σ)) (hS : va_S (fun q => s.heap.size ≤ q) s.heap H locs) (hcs : cells ≤ room_1.cells ∧ slots ≤ room_1.slots)
    (kk : ∀ (σ' : qm_St) (G' : gg_T) (H1 : Heap) (locs1 : List Loc), gg_ok G' → CG σ' G' → MG σ' G' → va_P D vwCl (qm_W α cA cR qm_lay σ') H1 → va_D (fun q => s.heap.size ≤ q) (qm_W α cA cR qm_lay σ') → va_S (fun q => s.heap.size ≤ q) s.heap H1 locs1 → W p l e room_1 s m #[Value.ref b] below meth c H1 locs1 cells slots Q (F0 m 1353 ls [])) :
    W p l e room_1 s m #[Value.ref b] below meth c H locs cells slots Q (F0 m 646 ls []) := by
  obtain ⟨hx, hb, hml, hown, hGw, hX, hbl, hK, hE⟩ := LW
  have hA : ∀ q : Nat, s.heap.size ≤ q → (fun q : Nat => s.heap.size ≤ q) q := fun _ h => h
  have hbA : ¬ (fun q : Nat => s.heap.size ≤ q) b := Nat.not_le.mpr hbl
  obtain ⟨T, X, P, Im, S⟩ := G
  obtain ⟨r, G', hG', h8, h9⟩ := j_order hG (xs (i + 1).toNatClampNeg) (xs (i + 2).toNatClampNeg)
  obtain ⟨σ1, hO8, hC1, hs1⟩ := h8 σ hC
  obtain ⟨σ2, hO9, hM2, hs2⟩ := h9 σ1 (hM.smC hs1)
  have hC2 := hC1.smM hG' hs2
  obtain ⟨x, rfl⟩ := qn_okI hO8 rfl
  refine lv_aload_n hx hb dL_law_646 rfl (lv_at hl 1 rfl) ?_
  refine lv_aload_n hx hb dL_law_647 rfl (lv_at hl 0 rfl) ?_
  refine lv_iload_n hx hb dL_law_648 rfl (lv_at hl 3 rfl) ?_
  refine lv_iconst (v := 1) hx hb dL_law_649 (by decide) ?_
  refine lv_iadd hx hb dL_law_650 ?_
  refine va_sld hx hb hX hbl hbA hS h1 dL_law_651 ?_
  refine lv_aload_n hx hb dL_law_652 rfl (lv_at hl 0 rfl) ?_
  refine lv_iload_n hx hb dL_law_653 rfl (lv_at hl 3 rfl) ?_
  refine lv_iconst (v := 2) hx hb dL_law_654 (by decide) ?_
  refine lv_iadd hx hb dL_law_655 ?_
  refine va_sld hx hb hX hbl hbA hS h2 dL_law_656 ?_
  refine qn_pub (a := 54) (as := [.int (xs (i + 1).toNatClampNeg), .int (xs (i + 2).toNatClampNeg)]) (rest := []) hx hb hml hown hGw ql_X8_order hO8 rfl rfl rfl (Nat.le_of_ble_eq_true rfl) ⟨(Nat.le_of_ble_eq_true rfl), (Nat.le_of_ble_eq_true rfl)⟩ hcs dL_law_657 hl.1 hK hP hD hS hA hE (fun H locs hP hD hS => ?_)
  refine lv_aload_n hx hb dL_law_660 rfl (lv_at hl 2 rfl) ?_
  refine lv_aload_n hx hb dL_law_661 rfl (lv_at hl 0 rfl) ?_
  refine lv_iload_n hx hb dL_law_662 rfl (lv_at hl 3 rfl) ?_
  refine lv_iconst (v := 1) hx hb dL_law_663 (by decide) ?_
  refine lv_iadd hx hb dL_law_664 ?_
  refine va_sld hx hb hX hbl hbA hS h1 dL_law_665 ?_
  refine lv_aload_n hx hb dL_law_666 rfl (lv_at hl 0 rfl) ?_
  refine lv_iload_n hx hb dL_law_667 rfl (lv_at hl 3 rfl) ?_
  refine lv_iconst (v := 2) hx hb dL_law_668 (by decide) ?_
  refine lv_iadd hx hb dL_law_669 ?_
  refine va_sld hx hb hX hbl hbA hS h2 dL_law_670 ?_
  refine qn_pub (a := 55) (as := [.int (xs (i + 1).toNatClampNeg), .int (xs (i + 2).toNatClampNeg)]) (rest := [.int x]) hx hb hml hown hGw ql_X9_order hO9 rfl rfl rfl (Nat.le_of_ble_eq_true rfl) ⟨(Nat.le_of_ble_eq_true rfl), (Nat.le_of_ble_eq_true rfl)⟩ hcs dL_law_671 hl.1 hK hP hD hS hA hE (fun H locs hP hD hS => ?_)
  refine lv_icmp_eq (tgt := 1353) hx hb dL_law_674 (by decide) (fun _ => ?_) (fun hc => absurd rfl hc)
  exact kk σ2 G' H locs hG' hC2 hM2 hP hD hS

set_option maxHeartbeats 1000000 in
theorem ql_c15 {p : Program} {l : Launch} {e : Env} {s : State} {m : MethodId} {below : List Frame} {meth : Method} {c : Code} {b L : Nat} {xs : Nat → Int32} {α : Nat → Nat} {cA cR : ClassId} {D : va_G} {Q : State → Prop} {H : Heap} {locs : List Loc} {cells slots : Nat} {σ : qm_St} {G : gg_T} {i : Int32} {ls : Array Slot} (LW : qn_Lw p s m c b L xs α cA cR D) (hG : gg_ok G) (hC : CG σ G) (hM : MG σ G) (h1 : vp_in (i + 1) L) (h2 : vp_in (i + 2) L) (h3 : vp_in (i + 3) L) (h4 : vp_in (i + 4) L) (h5 : vp_in (i + 5) L) (h6 : vp_in (i + 6) L) (hl : lv_has ls 4 [(0, .ref b), (1, .ref (α 54)), (2, .ref (α 55)), (3, .int i)]) (hP : va_P D vwCl (qm_W α cA cR qm_lay σ) H) (hD : va_D (fun q => s.heap.size ≤ q) (qm_W α cA cR qm_lay σ)) (hS : va_S (fun q => s.heap.size ≤ q) s.heap H locs) (hcs : cells ≤ room_1.cells ∧ slots ≤ room_1.slots)
    (kk : ∀ (σ' : qm_St) (G' : gg_T) (H1 : Heap) (locs1 : List Loc), gg_ok G' → CG σ' G' → MG σ' G' → va_P D vwCl (qm_W α cA cR qm_lay σ') H1 → va_D (fun q => s.heap.size ≤ q) (qm_W α cA cR qm_lay σ') → va_S (fun q => s.heap.size ≤ q) s.heap H1 locs1 → W p l e room_1 s m #[Value.ref b] below meth c H1 locs1 cells slots Q (F0 m 1353 ls [])) :
    W p l e room_1 s m #[Value.ref b] below meth c H locs cells slots Q (F0 m 679 ls []) := by
  obtain ⟨hx, hb, hml, hown, hGw, hX, hbl, hK, hE⟩ := LW
  have hA : ∀ q : Nat, s.heap.size ≤ q → (fun q : Nat => s.heap.size ≤ q) q := fun _ h => h
  have hbA : ¬ (fun q : Nat => s.heap.size ≤ q) b := Nat.not_le.mpr hbl
  obtain ⟨T, X, P, Im, S⟩ := G
  obtain ⟨r, G', hG', h8, h9⟩ := j_fewest hG
  obtain ⟨σ1, hO8, hC1, hs1⟩ := h8 σ hC
  obtain ⟨σ2, hO9, hM2, hs2⟩ := h9 σ1 (hM.smC hs1)
  have hC2 := hC1.smM hG' hs2
  obtain ⟨x, rfl⟩ := qn_okI hO8 rfl
  refine lv_aload_n hx hb dL_law_679 rfl (lv_at hl 1 rfl) ?_
  refine qn_pub (a := 54) (as := []) (rest := []) hx hb hml hown hGw ql_X8_fewest hO8 rfl rfl rfl (Nat.le_of_ble_eq_true rfl) ⟨(Nat.le_of_ble_eq_true rfl), (Nat.le_of_ble_eq_true rfl)⟩ hcs dL_law_680 hl.1 hK hP hD hS hA hE (fun H locs hP hD hS => ?_)
  refine lv_aload_n hx hb dL_law_683 rfl (lv_at hl 2 rfl) ?_
  refine qn_pub (a := 55) (as := []) (rest := [.int x]) hx hb hml hown hGw ql_X9_fewest hO9 rfl rfl rfl (Nat.le_of_ble_eq_true rfl) ⟨(Nat.le_of_ble_eq_true rfl), (Nat.le_of_ble_eq_true rfl)⟩ hcs dL_law_684 hl.1 hK hP hD hS hA hE (fun H locs hP hD hS => ?_)
  refine lv_icmp_eq (tgt := 1353) hx hb dL_law_687 (by decide) (fun _ => ?_) (fun hc => absurd rfl hc)
  exact kk σ2 G' H locs hG' hC2 hM2 hP hD hS

set_option maxHeartbeats 1000000 in
theorem ql_c16 {p : Program} {l : Launch} {e : Env} {s : State} {m : MethodId} {below : List Frame} {meth : Method} {c : Code} {b L : Nat} {xs : Nat → Int32} {α : Nat → Nat} {cA cR : ClassId} {D : va_G} {Q : State → Prop} {H : Heap} {locs : List Loc} {cells slots : Nat} {σ : qm_St} {G : gg_T} {i : Int32} {ls : Array Slot} (LW : qn_Lw p s m c b L xs α cA cR D) (hG : gg_ok G) (hC : CG σ G) (hM : MG σ G) (h1 : vp_in (i + 1) L) (h2 : vp_in (i + 2) L) (h3 : vp_in (i + 3) L) (h4 : vp_in (i + 4) L) (h5 : vp_in (i + 5) L) (h6 : vp_in (i + 6) L) (hl : lv_has ls 4 [(0, .ref b), (1, .ref (α 54)), (2, .ref (α 55)), (3, .int i)]) (hP : va_P D vwCl (qm_W α cA cR qm_lay σ) H) (hD : va_D (fun q => s.heap.size ≤ q) (qm_W α cA cR qm_lay σ)) (hS : va_S (fun q => s.heap.size ≤ q) s.heap H locs) (hcs : cells ≤ room_1.cells ∧ slots ≤ room_1.slots)
    (kk : ∀ (σ' : qm_St) (G' : gg_T) (H1 : Heap) (locs1 : List Loc), gg_ok G' → CG σ' G' → MG σ' G' → va_P D vwCl (qm_W α cA cR qm_lay σ') H1 → va_D (fun q => s.heap.size ≤ q) (qm_W α cA cR qm_lay σ') → va_S (fun q => s.heap.size ≤ q) s.heap H1 locs1 → W p l e room_1 s m #[Value.ref b] below meth c H1 locs1 cells slots Q (F0 m 1353 ls [])) :
    W p l e room_1 s m #[Value.ref b] below meth c H locs cells slots Q (F0 m 692 ls []) := by
  obtain ⟨hx, hb, hml, hown, hGw, hX, hbl, hK, hE⟩ := LW
  have hA : ∀ q : Nat, s.heap.size ≤ q → (fun q : Nat => s.heap.size ≤ q) q := fun _ h => h
  have hbA : ¬ (fun q : Nat => s.heap.size ≤ q) b := Nat.not_le.mpr hbl
  obtain ⟨T, X, P, Im, S⟩ := G
  obtain ⟨r, G', hG', h8, h9⟩ := j_paints hG (xs (i + 1).toNatClampNeg) (xs (i + 2).toNatClampNeg)
  obtain ⟨σ1, hO8, hC1, hs1⟩ := h8 σ hC
  obtain ⟨σ2, hO9, hM2, hs2⟩ := h9 σ1 (hM.smC hs1)
  have hC2 := hC1.smM hG' hs2
  obtain ⟨x, rfl⟩ := qn_okI hO8 rfl
  refine lv_aload_n hx hb dL_law_692 rfl (lv_at hl 1 rfl) ?_
  refine lv_aload_n hx hb dL_law_693 rfl (lv_at hl 0 rfl) ?_
  refine lv_iload_n hx hb dL_law_694 rfl (lv_at hl 3 rfl) ?_
  refine lv_iconst (v := 1) hx hb dL_law_695 (by decide) ?_
  refine lv_iadd hx hb dL_law_696 ?_
  refine va_sld hx hb hX hbl hbA hS h1 dL_law_697 ?_
  refine lv_aload_n hx hb dL_law_698 rfl (lv_at hl 0 rfl) ?_
  refine lv_iload_n hx hb dL_law_699 rfl (lv_at hl 3 rfl) ?_
  refine lv_iconst (v := 2) hx hb dL_law_700 (by decide) ?_
  refine lv_iadd hx hb dL_law_701 ?_
  refine va_sld hx hb hX hbl hbA hS h2 dL_law_702 ?_
  refine qn_pub (a := 54) (as := [.int (xs (i + 1).toNatClampNeg), .int (xs (i + 2).toNatClampNeg)]) (rest := []) hx hb hml hown hGw ql_X8_paints hO8 rfl rfl rfl (Nat.le_of_ble_eq_true rfl) ⟨(Nat.le_of_ble_eq_true rfl), (Nat.le_of_ble_eq_true rfl)⟩ hcs dL_law_703 hl.1 hK hP hD hS hA hE (fun H locs hP hD hS => ?_)
  refine lv_aload_n hx hb dL_law_706 rfl (lv_at hl 2 rfl) ?_
  refine lv_aload_n hx hb dL_law_707 rfl (lv_at hl 0 rfl) ?_
  refine lv_iload_n hx hb dL_law_708 rfl (lv_at hl 3 rfl) ?_
  refine lv_iconst (v := 1) hx hb dL_law_709 (by decide) ?_
  refine lv_iadd hx hb dL_law_710 ?_
  refine va_sld hx hb hX hbl hbA hS h1 dL_law_711 ?_
  refine lv_aload_n hx hb dL_law_712 rfl (lv_at hl 0 rfl) ?_
  refine lv_iload_n hx hb dL_law_713 rfl (lv_at hl 3 rfl) ?_
  refine lv_iconst (v := 2) hx hb dL_law_714 (by decide) ?_
  refine lv_iadd hx hb dL_law_715 ?_
  refine va_sld hx hb hX hbl hbA hS h2 dL_law_716 ?_
  refine qn_pub (a := 55) (as := [.int (xs (i + 1).toNatClampNeg), .int (xs (i + 2).toNatClampNeg)]) (rest := [.int x]) hx hb hml hown hGw ql_X9_paints hO9 rfl rfl rfl (Nat.le_of_ble_eq_true rfl) ⟨(Nat.le_of_ble_eq_true rfl), (Nat.le_of_ble_eq_true rfl)⟩ hcs dL_law_717 hl.1 hK hP hD hS hA hE (fun H locs hP hD hS => ?_)
  refine lv_icmp_eq (tgt := 1353) hx hb dL_law_720 (by decide) (fun _ => ?_) (fun hc => absurd rfl hc)
  exact kk σ2 G' H locs hG' hC2 hM2 hP hD hS

set_option maxHeartbeats 1000000 in
theorem ql_c17 {p : Program} {l : Launch} {e : Env} {s : State} {m : MethodId} {below : List Frame} {meth : Method} {c : Code} {b L : Nat} {xs : Nat → Int32} {α : Nat → Nat} {cA cR : ClassId} {D : va_G} {Q : State → Prop} {H : Heap} {locs : List Loc} {cells slots : Nat} {σ : qm_St} {G : gg_T} {i : Int32} {ls : Array Slot} (LW : qn_Lw p s m c b L xs α cA cR D) (hG : gg_ok G) (hC : CG σ G) (hM : MG σ G) (h1 : vp_in (i + 1) L) (h2 : vp_in (i + 2) L) (h3 : vp_in (i + 3) L) (h4 : vp_in (i + 4) L) (h5 : vp_in (i + 5) L) (h6 : vp_in (i + 6) L) (hl : lv_has ls 4 [(0, .ref b), (1, .ref (α 54)), (2, .ref (α 55)), (3, .int i)]) (hP : va_P D vwCl (qm_W α cA cR qm_lay σ) H) (hD : va_D (fun q => s.heap.size ≤ q) (qm_W α cA cR qm_lay σ)) (hS : va_S (fun q => s.heap.size ≤ q) s.heap H locs) (hcs : cells ≤ room_1.cells ∧ slots ≤ room_1.slots)
    (kk : ∀ (σ' : qm_St) (G' : gg_T) (H1 : Heap) (locs1 : List Loc), gg_ok G' → CG σ' G' → MG σ' G' → va_P D vwCl (qm_W α cA cR qm_lay σ') H1 → va_D (fun q => s.heap.size ≤ q) (qm_W α cA cR qm_lay σ') → va_S (fun q => s.heap.size ≤ q) s.heap H1 locs1 → W p l e room_1 s m #[Value.ref b] below meth c H1 locs1 cells slots Q (F0 m 1353 ls [])) :
    W p l e room_1 s m #[Value.ref b] below meth c H locs cells slots Q (F0 m 725 ls []) := by
  obtain ⟨hx, hb, hml, hown, hGw, hX, hbl, hK, hE⟩ := LW
  have hA : ∀ q : Nat, s.heap.size ≤ q → (fun q : Nat => s.heap.size ≤ q) q := fun _ h => h
  have hbA : ¬ (fun q : Nat => s.heap.size ≤ q) b := Nat.not_le.mpr hbl
  obtain ⟨T, X, P, Im, S⟩ := G
  obtain ⟨r, G', hG', h8, h9⟩ := j_raise hG (xs (i + 1).toNatClampNeg)
  obtain ⟨σ1, hO8, hC1, hs1⟩ := h8 σ hC
  obtain ⟨σ2, hO9, hM2, hs2⟩ := h9 σ1 (hM.smC hs1)
  have hC2 := hC1.smM hG' hs2
  obtain ⟨x, rfl⟩ := qn_okI hO8 rfl
  refine lv_aload_n hx hb dL_law_725 rfl (lv_at hl 1 rfl) ?_
  refine lv_aload_n hx hb dL_law_726 rfl (lv_at hl 0 rfl) ?_
  refine lv_iload_n hx hb dL_law_727 rfl (lv_at hl 3 rfl) ?_
  refine lv_iconst (v := 1) hx hb dL_law_728 (by decide) ?_
  refine lv_iadd hx hb dL_law_729 ?_
  refine va_sld hx hb hX hbl hbA hS h1 dL_law_730 ?_
  refine qn_pub (a := 54) (as := [.int (xs (i + 1).toNatClampNeg)]) (rest := []) hx hb hml hown hGw ql_X8_raise hO8 rfl rfl rfl (Nat.le_of_ble_eq_true rfl) ⟨(Nat.le_of_ble_eq_true rfl), (Nat.le_of_ble_eq_true rfl)⟩ hcs dL_law_731 hl.1 hK hP hD hS hA hE (fun H locs hP hD hS => ?_)
  refine lv_aload_n hx hb dL_law_734 rfl (lv_at hl 2 rfl) ?_
  refine lv_aload_n hx hb dL_law_735 rfl (lv_at hl 0 rfl) ?_
  refine lv_iload_n hx hb dL_law_736 rfl (lv_at hl 3 rfl) ?_
  refine lv_iconst (v := 1) hx hb dL_law_737 (by decide) ?_
  refine lv_iadd hx hb dL_law_738 ?_
  refine va_sld hx hb hX hbl hbA hS h1 dL_law_739 ?_
  refine qn_pub (a := 55) (as := [.int (xs (i + 1).toNatClampNeg)]) (rest := [.int x]) hx hb hml hown hGw ql_X9_raise hO9 rfl rfl rfl (Nat.le_of_ble_eq_true rfl) ⟨(Nat.le_of_ble_eq_true rfl), (Nat.le_of_ble_eq_true rfl)⟩ hcs dL_law_740 hl.1 hK hP hD hS hA hE (fun H locs hP hD hS => ?_)
  refine lv_icmp_eq (tgt := 1353) hx hb dL_law_743 (by decide) (fun _ => ?_) (fun hc => absurd rfl hc)
  exact kk σ2 G' H locs hG' hC2 hM2 hP hD hS

set_option maxHeartbeats 1000000 in
theorem ql_c18 {p : Program} {l : Launch} {e : Env} {s : State} {m : MethodId} {below : List Frame} {meth : Method} {c : Code} {b L : Nat} {xs : Nat → Int32} {α : Nat → Nat} {cA cR : ClassId} {D : va_G} {Q : State → Prop} {H : Heap} {locs : List Loc} {cells slots : Nat} {σ : qm_St} {G : gg_T} {i : Int32} {ls : Array Slot} (LW : qn_Lw p s m c b L xs α cA cR D) (hG : gg_ok G) (hC : CG σ G) (hM : MG σ G) (h1 : vp_in (i + 1) L) (h2 : vp_in (i + 2) L) (h3 : vp_in (i + 3) L) (h4 : vp_in (i + 4) L) (h5 : vp_in (i + 5) L) (h6 : vp_in (i + 6) L) (hl : lv_has ls 4 [(0, .ref b), (1, .ref (α 54)), (2, .ref (α 55)), (3, .int i)]) (hP : va_P D vwCl (qm_W α cA cR qm_lay σ) H) (hD : va_D (fun q => s.heap.size ≤ q) (qm_W α cA cR qm_lay σ)) (hS : va_S (fun q => s.heap.size ≤ q) s.heap H locs) (hcs : cells ≤ room_1.cells ∧ slots ≤ room_1.slots)
    (kk : ∀ (σ' : qm_St) (G' : gg_T) (H1 : Heap) (locs1 : List Loc), gg_ok G' → CG σ' G' → MG σ' G' → va_P D vwCl (qm_W α cA cR qm_lay σ') H1 → va_D (fun q => s.heap.size ≤ q) (qm_W α cA cR qm_lay σ') → va_S (fun q => s.heap.size ≤ q) s.heap H1 locs1 → W p l e room_1 s m #[Value.ref b] below meth c H1 locs1 cells slots Q (F0 m 1353 ls [])) :
    W p l e room_1 s m #[Value.ref b] below meth c H locs cells slots Q (F0 m 748 ls []) := by
  obtain ⟨hx, hb, hml, hown, hGw, hX, hbl, hK, hE⟩ := LW
  have hA : ∀ q : Nat, s.heap.size ≤ q → (fun q : Nat => s.heap.size ≤ q) q := fun _ h => h
  have hbA : ¬ (fun q : Nat => s.heap.size ≤ q) b := Nat.not_le.mpr hbl
  obtain ⟨T, X, P, Im, S⟩ := G
  obtain ⟨r, G', hG', h8, h9⟩ := j_when hG (xs (i + 1).toNatClampNeg) (xs (i + 2).toNatClampNeg) (xs (i + 3).toNatClampNeg)
  obtain ⟨σ1, hO8, hC1, hs1⟩ := h8 σ hC
  obtain ⟨σ2, hO9, hM2, hs2⟩ := h9 σ1 (hM.smC hs1)
  have hC2 := hC1.smM hG' hs2
  obtain ⟨x, rfl⟩ := qn_okI hO8 rfl
  refine lv_aload_n hx hb dL_law_748 rfl (lv_at hl 1 rfl) ?_
  refine lv_aload_n hx hb dL_law_749 rfl (lv_at hl 0 rfl) ?_
  refine lv_iload_n hx hb dL_law_750 rfl (lv_at hl 3 rfl) ?_
  refine lv_iconst (v := 1) hx hb dL_law_751 (by decide) ?_
  refine lv_iadd hx hb dL_law_752 ?_
  refine va_sld hx hb hX hbl hbA hS h1 dL_law_753 ?_
  refine lv_aload_n hx hb dL_law_754 rfl (lv_at hl 0 rfl) ?_
  refine lv_iload_n hx hb dL_law_755 rfl (lv_at hl 3 rfl) ?_
  refine lv_iconst (v := 2) hx hb dL_law_756 (by decide) ?_
  refine lv_iadd hx hb dL_law_757 ?_
  refine va_sld hx hb hX hbl hbA hS h2 dL_law_758 ?_
  refine lv_aload_n hx hb dL_law_759 rfl (lv_at hl 0 rfl) ?_
  refine lv_iload_n hx hb dL_law_760 rfl (lv_at hl 3 rfl) ?_
  refine lv_iconst (v := 3) hx hb dL_law_761 (by decide) ?_
  refine lv_iadd hx hb dL_law_762 ?_
  refine va_sld hx hb hX hbl hbA hS h3 dL_law_763 ?_
  refine qn_pub (a := 54) (as := [.int (xs (i + 1).toNatClampNeg), .int (xs (i + 2).toNatClampNeg), .int (xs (i + 3).toNatClampNeg)]) (rest := []) hx hb hml hown hGw ql_X8_when hO8 rfl rfl rfl (Nat.le_of_ble_eq_true rfl) ⟨(Nat.le_of_ble_eq_true rfl), (Nat.le_of_ble_eq_true rfl)⟩ hcs dL_law_764 hl.1 hK hP hD hS hA hE (fun H locs hP hD hS => ?_)
  refine lv_aload_n hx hb dL_law_767 rfl (lv_at hl 2 rfl) ?_
  refine lv_aload_n hx hb dL_law_768 rfl (lv_at hl 0 rfl) ?_
  refine lv_iload_n hx hb dL_law_769 rfl (lv_at hl 3 rfl) ?_
  refine lv_iconst (v := 1) hx hb dL_law_770 (by decide) ?_
  refine lv_iadd hx hb dL_law_771 ?_
  refine va_sld hx hb hX hbl hbA hS h1 dL_law_772 ?_
  refine lv_aload_n hx hb dL_law_773 rfl (lv_at hl 0 rfl) ?_
  refine lv_iload_n hx hb dL_law_774 rfl (lv_at hl 3 rfl) ?_
  refine lv_iconst (v := 2) hx hb dL_law_775 (by decide) ?_
  refine lv_iadd hx hb dL_law_776 ?_
  refine va_sld hx hb hX hbl hbA hS h2 dL_law_777 ?_
  refine lv_aload_n hx hb dL_law_778 rfl (lv_at hl 0 rfl) ?_
  refine lv_iload_n hx hb dL_law_779 rfl (lv_at hl 3 rfl) ?_
  refine lv_iconst (v := 3) hx hb dL_law_780 (by decide) ?_
  refine lv_iadd hx hb dL_law_781 ?_
  refine va_sld hx hb hX hbl hbA hS h3 dL_law_782 ?_
  refine qn_pub (a := 55) (as := [.int (xs (i + 1).toNatClampNeg), .int (xs (i + 2).toNatClampNeg), .int (xs (i + 3).toNatClampNeg)]) (rest := [.int x]) hx hb hml hown hGw ql_X9_when hO9 rfl rfl rfl (Nat.le_of_ble_eq_true rfl) ⟨(Nat.le_of_ble_eq_true rfl), (Nat.le_of_ble_eq_true rfl)⟩ hcs dL_law_783 hl.1 hK hP hD hS hA hE (fun H locs hP hD hS => ?_)
  refine lv_icmp_eq (tgt := 1353) hx hb dL_law_786 (by decide) (fun _ => ?_) (fun hc => absurd rfl hc)
  exact kk σ2 G' H locs hG' hC2 hM2 hP hD hS

set_option maxHeartbeats 1000000 in
theorem ql_c19 {p : Program} {l : Launch} {e : Env} {s : State} {m : MethodId} {below : List Frame} {meth : Method} {c : Code} {b L : Nat} {xs : Nat → Int32} {α : Nat → Nat} {cA cR : ClassId} {D : va_G} {Q : State → Prop} {H : Heap} {locs : List Loc} {cells slots : Nat} {σ : qm_St} {G : gg_T} {i : Int32} {ls : Array Slot} (LW : qn_Lw p s m c b L xs α cA cR D) (hG : gg_ok G) (hC : CG σ G) (hM : MG σ G) (h1 : vp_in (i + 1) L) (h2 : vp_in (i + 2) L) (h3 : vp_in (i + 3) L) (h4 : vp_in (i + 4) L) (h5 : vp_in (i + 5) L) (h6 : vp_in (i + 6) L) (hl : lv_has ls 4 [(0, .ref b), (1, .ref (α 54)), (2, .ref (α 55)), (3, .int i)]) (hP : va_P D vwCl (qm_W α cA cR qm_lay σ) H) (hD : va_D (fun q => s.heap.size ≤ q) (qm_W α cA cR qm_lay σ)) (hS : va_S (fun q => s.heap.size ≤ q) s.heap H locs) (hcs : cells ≤ room_1.cells ∧ slots ≤ room_1.slots)
    (kk : ∀ (σ' : qm_St) (G' : gg_T) (H1 : Heap) (locs1 : List Loc), gg_ok G' → CG σ' G' → MG σ' G' → va_P D vwCl (qm_W α cA cR qm_lay σ') H1 → va_D (fun q => s.heap.size ≤ q) (qm_W α cA cR qm_lay σ') → va_S (fun q => s.heap.size ≤ q) s.heap H1 locs1 → W p l e room_1 s m #[Value.ref b] below meth c H1 locs1 cells slots Q (F0 m 1353 ls [])) :
    W p l e room_1 s m #[Value.ref b] below meth c H locs cells slots Q (F0 m 791 ls []) := by
  obtain ⟨hx, hb, hml, hown, hGw, hX, hbl, hK, hE⟩ := LW
  have hA : ∀ q : Nat, s.heap.size ≤ q → (fun q : Nat => s.heap.size ≤ q) q := fun _ h => h
  have hbA : ¬ (fun q : Nat => s.heap.size ≤ q) b := Nat.not_le.mpr hbl
  obtain ⟨T, X, P, Im, S⟩ := G
  obtain ⟨r, G', hG', h8, h9⟩ := j_rule hG (xs (i + 1).toNatClampNeg) (xs (i + 2).toNatClampNeg)
  obtain ⟨σ1, hO8, hC1, hs1⟩ := h8 σ hC
  obtain ⟨σ2, hO9, hM2, hs2⟩ := h9 σ1 (hM.smC hs1)
  have hC2 := hC1.smM hG' hs2
  obtain ⟨x, rfl⟩ := qn_okI hO8 rfl
  refine lv_aload_n hx hb dL_law_791 rfl (lv_at hl 1 rfl) ?_
  refine lv_aload_n hx hb dL_law_792 rfl (lv_at hl 0 rfl) ?_
  refine lv_iload_n hx hb dL_law_793 rfl (lv_at hl 3 rfl) ?_
  refine lv_iconst (v := 1) hx hb dL_law_794 (by decide) ?_
  refine lv_iadd hx hb dL_law_795 ?_
  refine va_sld hx hb hX hbl hbA hS h1 dL_law_796 ?_
  refine lv_aload_n hx hb dL_law_797 rfl (lv_at hl 0 rfl) ?_
  refine lv_iload_n hx hb dL_law_798 rfl (lv_at hl 3 rfl) ?_
  refine lv_iconst (v := 2) hx hb dL_law_799 (by decide) ?_
  refine lv_iadd hx hb dL_law_800 ?_
  refine va_sld hx hb hX hbl hbA hS h2 dL_law_801 ?_
  refine qn_pub (a := 54) (as := [.int (xs (i + 1).toNatClampNeg), .int (xs (i + 2).toNatClampNeg)]) (rest := []) hx hb hml hown hGw ql_X8_rule hO8 rfl rfl rfl (Nat.le_of_ble_eq_true rfl) ⟨(Nat.le_of_ble_eq_true rfl), (Nat.le_of_ble_eq_true rfl)⟩ hcs dL_law_802 hl.1 hK hP hD hS hA hE (fun H locs hP hD hS => ?_)
  refine lv_aload_n hx hb dL_law_805 rfl (lv_at hl 2 rfl) ?_
  refine lv_aload_n hx hb dL_law_806 rfl (lv_at hl 0 rfl) ?_
  refine lv_iload_n hx hb dL_law_807 rfl (lv_at hl 3 rfl) ?_
  refine lv_iconst (v := 1) hx hb dL_law_808 (by decide) ?_
  refine lv_iadd hx hb dL_law_809 ?_
  refine va_sld hx hb hX hbl hbA hS h1 dL_law_810 ?_
  refine lv_aload_n hx hb dL_law_811 rfl (lv_at hl 0 rfl) ?_
  refine lv_iload_n hx hb dL_law_812 rfl (lv_at hl 3 rfl) ?_
  refine lv_iconst (v := 2) hx hb dL_law_813 (by decide) ?_
  refine lv_iadd hx hb dL_law_814 ?_
  refine va_sld hx hb hX hbl hbA hS h2 dL_law_815 ?_
  refine qn_pub (a := 55) (as := [.int (xs (i + 1).toNatClampNeg), .int (xs (i + 2).toNatClampNeg)]) (rest := [.int x]) hx hb hml hown hGw ql_X9_rule hO9 rfl rfl rfl (Nat.le_of_ble_eq_true rfl) ⟨(Nat.le_of_ble_eq_true rfl), (Nat.le_of_ble_eq_true rfl)⟩ hcs dL_law_816 hl.1 hK hP hD hS hA hE (fun H locs hP hD hS => ?_)
  refine lv_icmp_eq (tgt := 1353) hx hb dL_law_819 (by decide) (fun _ => ?_) (fun hc => absurd rfl hc)
  exact kk σ2 G' H locs hG' hC2 hM2 hP hD hS

set_option maxHeartbeats 1000000 in
theorem ql_c20 {p : Program} {l : Launch} {e : Env} {s : State} {m : MethodId} {below : List Frame} {meth : Method} {c : Code} {b L : Nat} {xs : Nat → Int32} {α : Nat → Nat} {cA cR : ClassId} {D : va_G} {Q : State → Prop} {H : Heap} {locs : List Loc} {cells slots : Nat} {σ : qm_St} {G : gg_T} {i : Int32} {ls : Array Slot} (LW : qn_Lw p s m c b L xs α cA cR D) (hG : gg_ok G) (hC : CG σ G) (hM : MG σ G) (h1 : vp_in (i + 1) L) (h2 : vp_in (i + 2) L) (h3 : vp_in (i + 3) L) (h4 : vp_in (i + 4) L) (h5 : vp_in (i + 5) L) (h6 : vp_in (i + 6) L) (hl : lv_has ls 4 [(0, .ref b), (1, .ref (α 54)), (2, .ref (α 55)), (3, .int i)]) (hP : va_P D vwCl (qm_W α cA cR qm_lay σ) H) (hD : va_D (fun q => s.heap.size ≤ q) (qm_W α cA cR qm_lay σ)) (hS : va_S (fun q => s.heap.size ≤ q) s.heap H locs) (hcs : cells ≤ room_1.cells ∧ slots ≤ room_1.slots)
    (kk : ∀ (σ' : qm_St) (G' : gg_T) (H1 : Heap) (locs1 : List Loc), gg_ok G' → CG σ' G' → MG σ' G' → va_P D vwCl (qm_W α cA cR qm_lay σ') H1 → va_D (fun q => s.heap.size ≤ q) (qm_W α cA cR qm_lay σ') → va_S (fun q => s.heap.size ≤ q) s.heap H1 locs1 → W p l e room_1 s m #[Value.ref b] below meth c H1 locs1 cells slots Q (F0 m 1353 ls [])) :
    W p l e room_1 s m #[Value.ref b] below meth c H locs cells slots Q (F0 m 824 ls []) := by
  obtain ⟨hx, hb, hml, hown, hGw, hX, hbl, hK, hE⟩ := LW
  have hA : ∀ q : Nat, s.heap.size ≤ q → (fun q : Nat => s.heap.size ≤ q) q := fun _ h => h
  have hbA : ¬ (fun q : Nat => s.heap.size ≤ q) b := Nat.not_le.mpr hbl
  obtain ⟨T, X, P, Im, S⟩ := G
  obtain ⟨r, G', hG', h8, h9⟩ := j_ahead hG (xs (i + 1).toNatClampNeg) (xs (i + 2).toNatClampNeg)
  obtain ⟨σ1, hO8, hC1, hs1⟩ := h8 σ hC
  obtain ⟨σ2, hO9, hM2, hs2⟩ := h9 σ1 (hM.smC hs1)
  have hC2 := hC1.smM hG' hs2
  obtain ⟨x, rfl⟩ := qn_okI hO8 rfl
  refine lv_aload_n hx hb dL_law_824 rfl (lv_at hl 1 rfl) ?_
  refine lv_aload_n hx hb dL_law_825 rfl (lv_at hl 0 rfl) ?_
  refine lv_iload_n hx hb dL_law_826 rfl (lv_at hl 3 rfl) ?_
  refine lv_iconst (v := 1) hx hb dL_law_827 (by decide) ?_
  refine lv_iadd hx hb dL_law_828 ?_
  refine va_sld hx hb hX hbl hbA hS h1 dL_law_829 ?_
  refine lv_aload_n hx hb dL_law_830 rfl (lv_at hl 0 rfl) ?_
  refine lv_iload_n hx hb dL_law_831 rfl (lv_at hl 3 rfl) ?_
  refine lv_iconst (v := 2) hx hb dL_law_832 (by decide) ?_
  refine lv_iadd hx hb dL_law_833 ?_
  refine va_sld hx hb hX hbl hbA hS h2 dL_law_834 ?_
  refine qn_pub (a := 54) (as := [.int (xs (i + 1).toNatClampNeg), .int (xs (i + 2).toNatClampNeg)]) (rest := []) hx hb hml hown hGw ql_X8_ahead hO8 rfl rfl rfl (Nat.le_of_ble_eq_true rfl) ⟨(Nat.le_of_ble_eq_true rfl), (Nat.le_of_ble_eq_true rfl)⟩ hcs dL_law_835 hl.1 hK hP hD hS hA hE (fun H locs hP hD hS => ?_)
  refine lv_aload_n hx hb dL_law_838 rfl (lv_at hl 2 rfl) ?_
  refine lv_aload_n hx hb dL_law_839 rfl (lv_at hl 0 rfl) ?_
  refine lv_iload_n hx hb dL_law_840 rfl (lv_at hl 3 rfl) ?_
  refine lv_iconst (v := 1) hx hb dL_law_841 (by decide) ?_
  refine lv_iadd hx hb dL_law_842 ?_
  refine va_sld hx hb hX hbl hbA hS h1 dL_law_843 ?_
  refine lv_aload_n hx hb dL_law_844 rfl (lv_at hl 0 rfl) ?_
  refine lv_iload_n hx hb dL_law_845 rfl (lv_at hl 3 rfl) ?_
  refine lv_iconst (v := 2) hx hb dL_law_846 (by decide) ?_
  refine lv_iadd hx hb dL_law_847 ?_
  refine va_sld hx hb hX hbl hbA hS h2 dL_law_848 ?_
  refine qn_pub (a := 55) (as := [.int (xs (i + 1).toNatClampNeg), .int (xs (i + 2).toNatClampNeg)]) (rest := [.int x]) hx hb hml hown hGw ql_X9_ahead hO9 rfl rfl rfl (Nat.le_of_ble_eq_true rfl) ⟨(Nat.le_of_ble_eq_true rfl), (Nat.le_of_ble_eq_true rfl)⟩ hcs dL_law_849 hl.1 hK hP hD hS hA hE (fun H locs hP hD hS => ?_)
  refine lv_icmp_eq (tgt := 1353) hx hb dL_law_852 (by decide) (fun _ => ?_) (fun hc => absurd rfl hc)
  exact kk σ2 G' H locs hG' hC2 hM2 hP hD hS

set_option maxHeartbeats 1000000 in
theorem ql_c21 {p : Program} {l : Launch} {e : Env} {s : State} {m : MethodId} {below : List Frame} {meth : Method} {c : Code} {b L : Nat} {xs : Nat → Int32} {α : Nat → Nat} {cA cR : ClassId} {D : va_G} {Q : State → Prop} {H : Heap} {locs : List Loc} {cells slots : Nat} {σ : qm_St} {G : gg_T} {i : Int32} {ls : Array Slot} (LW : qn_Lw p s m c b L xs α cA cR D) (hG : gg_ok G) (hC : CG σ G) (hM : MG σ G) (h1 : vp_in (i + 1) L) (h2 : vp_in (i + 2) L) (h3 : vp_in (i + 3) L) (h4 : vp_in (i + 4) L) (h5 : vp_in (i + 5) L) (h6 : vp_in (i + 6) L) (hl : lv_has ls 4 [(0, .ref b), (1, .ref (α 54)), (2, .ref (α 55)), (3, .int i)]) (hP : va_P D vwCl (qm_W α cA cR qm_lay σ) H) (hD : va_D (fun q => s.heap.size ≤ q) (qm_W α cA cR qm_lay σ)) (hS : va_S (fun q => s.heap.size ≤ q) s.heap H locs) (hcs : cells ≤ room_1.cells ∧ slots ≤ room_1.slots)
    (kk : ∀ (σ' : qm_St) (G' : gg_T) (H1 : Heap) (locs1 : List Loc), gg_ok G' → CG σ' G' → MG σ' G' → va_P D vwCl (qm_W α cA cR qm_lay σ') H1 → va_D (fun q => s.heap.size ≤ q) (qm_W α cA cR qm_lay σ') → va_S (fun q => s.heap.size ≤ q) s.heap H1 locs1 → W p l e room_1 s m #[Value.ref b] below meth c H1 locs1 cells slots Q (F0 m 1353 ls [])) :
    W p l e room_1 s m #[Value.ref b] below meth c H locs cells slots Q (F0 m 857 ls []) := by
  obtain ⟨hx, hb, hml, hown, hGw, hX, hbl, hK, hE⟩ := LW
  have hA : ∀ q : Nat, s.heap.size ≤ q → (fun q : Nat => s.heap.size ≤ q) q := fun _ h => h
  have hbA : ¬ (fun q : Nat => s.heap.size ≤ q) b := Nat.not_le.mpr hbl
  obtain ⟨T, X, P, Im, S⟩ := G
  obtain ⟨r, G', hG', h8, h9⟩ := j_built hG (xs (i + 1).toNatClampNeg)
  obtain ⟨σ1, hO8, hC1, hs1⟩ := h8 σ hC
  obtain ⟨σ2, hO9, hM2, hs2⟩ := h9 σ1 (hM.smC hs1)
  have hC2 := hC1.smM hG' hs2
  obtain ⟨x, rfl⟩ := qn_okI hO8 rfl
  refine lv_aload_n hx hb dL_law_857 rfl (lv_at hl 1 rfl) ?_
  refine lv_aload_n hx hb dL_law_858 rfl (lv_at hl 0 rfl) ?_
  refine lv_iload_n hx hb dL_law_859 rfl (lv_at hl 3 rfl) ?_
  refine lv_iconst (v := 1) hx hb dL_law_860 (by decide) ?_
  refine lv_iadd hx hb dL_law_861 ?_
  refine va_sld hx hb hX hbl hbA hS h1 dL_law_862 ?_
  refine qn_pub (a := 54) (as := [.int (xs (i + 1).toNatClampNeg)]) (rest := []) hx hb hml hown hGw ql_X8_built hO8 rfl rfl rfl (Nat.le_of_ble_eq_true rfl) ⟨(Nat.le_of_ble_eq_true rfl), (Nat.le_of_ble_eq_true rfl)⟩ hcs dL_law_863 hl.1 hK hP hD hS hA hE (fun H locs hP hD hS => ?_)
  refine lv_aload_n hx hb dL_law_866 rfl (lv_at hl 2 rfl) ?_
  refine lv_aload_n hx hb dL_law_867 rfl (lv_at hl 0 rfl) ?_
  refine lv_iload_n hx hb dL_law_868 rfl (lv_at hl 3 rfl) ?_
  refine lv_iconst (v := 1) hx hb dL_law_869 (by decide) ?_
  refine lv_iadd hx hb dL_law_870 ?_
  refine va_sld hx hb hX hbl hbA hS h1 dL_law_871 ?_
  refine qn_pub (a := 55) (as := [.int (xs (i + 1).toNatClampNeg)]) (rest := [.int x]) hx hb hml hown hGw ql_X9_built hO9 rfl rfl rfl (Nat.le_of_ble_eq_true rfl) ⟨(Nat.le_of_ble_eq_true rfl), (Nat.le_of_ble_eq_true rfl)⟩ hcs dL_law_872 hl.1 hK hP hD hS hA hE (fun H locs hP hD hS => ?_)
  refine lv_icmp_eq (tgt := 1353) hx hb dL_law_875 (by decide) (fun _ => ?_) (fun hc => absurd rfl hc)
  exact kk σ2 G' H locs hG' hC2 hM2 hP hD hS

set_option maxHeartbeats 1000000 in
theorem ql_c22 {p : Program} {l : Launch} {e : Env} {s : State} {m : MethodId} {below : List Frame} {meth : Method} {c : Code} {b L : Nat} {xs : Nat → Int32} {α : Nat → Nat} {cA cR : ClassId} {D : va_G} {Q : State → Prop} {H : Heap} {locs : List Loc} {cells slots : Nat} {σ : qm_St} {G : gg_T} {i : Int32} {ls : Array Slot} (LW : qn_Lw p s m c b L xs α cA cR D) (hG : gg_ok G) (hC : CG σ G) (hM : MG σ G) (h1 : vp_in (i + 1) L) (h2 : vp_in (i + 2) L) (h3 : vp_in (i + 3) L) (h4 : vp_in (i + 4) L) (h5 : vp_in (i + 5) L) (h6 : vp_in (i + 6) L) (hl : lv_has ls 4 [(0, .ref b), (1, .ref (α 54)), (2, .ref (α 55)), (3, .int i)]) (hP : va_P D vwCl (qm_W α cA cR qm_lay σ) H) (hD : va_D (fun q => s.heap.size ≤ q) (qm_W α cA cR qm_lay σ)) (hS : va_S (fun q => s.heap.size ≤ q) s.heap H locs) (hcs : cells ≤ room_1.cells ∧ slots ≤ room_1.slots)
    (kk : ∀ (σ' : qm_St) (G' : gg_T) (H1 : Heap) (locs1 : List Loc), gg_ok G' → CG σ' G' → MG σ' G' → va_P D vwCl (qm_W α cA cR qm_lay σ') H1 → va_D (fun q => s.heap.size ≤ q) (qm_W α cA cR qm_lay σ') → va_S (fun q => s.heap.size ≤ q) s.heap H1 locs1 → W p l e room_1 s m #[Value.ref b] below meth c H1 locs1 cells slots Q (F0 m 1353 ls [])) :
    W p l e room_1 s m #[Value.ref b] below meth c H locs cells slots Q (F0 m 880 ls []) := by
  obtain ⟨hx, hb, hml, hown, hGw, hX, hbl, hK, hE⟩ := LW
  have hA : ∀ q : Nat, s.heap.size ≤ q → (fun q : Nat => s.heap.size ≤ q) q := fun _ h => h
  have hbA : ¬ (fun q : Nat => s.heap.size ≤ q) b := Nat.not_le.mpr hbl
  obtain ⟨T, X, P, Im, S⟩ := G
  obtain ⟨r, G', hG', h8, h9⟩ := j_blame hG
  obtain ⟨σ1, hO8, hC1, hs1⟩ := h8 σ hC
  obtain ⟨σ2, hO9, hM2, hs2⟩ := h9 σ1 (hM.smC hs1)
  have hC2 := hC1.smM hG' hs2
  obtain ⟨x, rfl⟩ := qn_okI hO8 rfl
  refine lv_aload_n hx hb dL_law_880 rfl (lv_at hl 1 rfl) ?_
  refine qn_pub (a := 54) (as := []) (rest := []) hx hb hml hown hGw ql_X8_blame hO8 rfl rfl rfl (Nat.le_of_ble_eq_true rfl) ⟨(Nat.le_of_ble_eq_true rfl), (Nat.le_of_ble_eq_true rfl)⟩ hcs dL_law_881 hl.1 hK hP hD hS hA hE (fun H locs hP hD hS => ?_)
  refine lv_aload_n hx hb dL_law_884 rfl (lv_at hl 2 rfl) ?_
  refine qn_pub (a := 55) (as := []) (rest := [.int x]) hx hb hml hown hGw ql_X9_blame hO9 rfl rfl rfl (Nat.le_of_ble_eq_true rfl) ⟨(Nat.le_of_ble_eq_true rfl), (Nat.le_of_ble_eq_true rfl)⟩ hcs dL_law_885 hl.1 hK hP hD hS hA hE (fun H locs hP hD hS => ?_)
  refine lv_icmp_eq (tgt := 1353) hx hb dL_law_888 (by decide) (fun _ => ?_) (fun hc => absurd rfl hc)
  exact kk σ2 G' H locs hG' hC2 hM2 hP hD hS

set_option maxHeartbeats 1000000 in
theorem ql_c23 {p : Program} {l : Launch} {e : Env} {s : State} {m : MethodId} {below : List Frame} {meth : Method} {c : Code} {b L : Nat} {xs : Nat → Int32} {α : Nat → Nat} {cA cR : ClassId} {D : va_G} {Q : State → Prop} {H : Heap} {locs : List Loc} {cells slots : Nat} {σ : qm_St} {G : gg_T} {i : Int32} {ls : Array Slot} (LW : qn_Lw p s m c b L xs α cA cR D) (hG : gg_ok G) (hC : CG σ G) (hM : MG σ G) (h1 : vp_in (i + 1) L) (h2 : vp_in (i + 2) L) (h3 : vp_in (i + 3) L) (h4 : vp_in (i + 4) L) (h5 : vp_in (i + 5) L) (h6 : vp_in (i + 6) L) (hl : lv_has ls 4 [(0, .ref b), (1, .ref (α 54)), (2, .ref (α 55)), (3, .int i)]) (hP : va_P D vwCl (qm_W α cA cR qm_lay σ) H) (hD : va_D (fun q => s.heap.size ≤ q) (qm_W α cA cR qm_lay σ)) (hS : va_S (fun q => s.heap.size ≤ q) s.heap H locs) (hcs : cells ≤ room_1.cells ∧ slots ≤ room_1.slots)
    (kk : ∀ (σ' : qm_St) (G' : gg_T) (H1 : Heap) (locs1 : List Loc), gg_ok G' → CG σ' G' → MG σ' G' → va_P D vwCl (qm_W α cA cR qm_lay σ') H1 → va_D (fun q => s.heap.size ≤ q) (qm_W α cA cR qm_lay σ') → va_S (fun q => s.heap.size ≤ q) s.heap H1 locs1 → W p l e room_1 s m #[Value.ref b] below meth c H1 locs1 cells slots Q (F0 m 1353 ls [])) :
    W p l e room_1 s m #[Value.ref b] below meth c H locs cells slots Q (F0 m 893 ls []) := by
  obtain ⟨hx, hb, hml, hown, hGw, hX, hbl, hK, hE⟩ := LW
  have hA : ∀ q : Nat, s.heap.size ≤ q → (fun q : Nat => s.heap.size ≤ q) q := fun _ h => h
  have hbA : ¬ (fun q : Nat => s.heap.size ≤ q) b := Nat.not_le.mpr hbl
  obtain ⟨T, X, P, Im, S⟩ := G
  obtain ⟨r, G', hG', h8, h9⟩ := j_judge hG (xs (i + 1).toNatClampNeg)
  obtain ⟨σ1, hO8, hC1, hs1⟩ := h8 σ hC
  obtain ⟨σ2, hO9, hM2, hs2⟩ := h9 σ1 (hM.smC hs1)
  have hC2 := hC1.smM hG' hs2
  obtain ⟨x, rfl⟩ := qn_okI hO8 rfl
  refine lv_aload_n hx hb dL_law_893 rfl (lv_at hl 1 rfl) ?_
  refine lv_aload_n hx hb dL_law_894 rfl (lv_at hl 0 rfl) ?_
  refine lv_iload_n hx hb dL_law_895 rfl (lv_at hl 3 rfl) ?_
  refine lv_iconst (v := 1) hx hb dL_law_896 (by decide) ?_
  refine lv_iadd hx hb dL_law_897 ?_
  refine va_sld hx hb hX hbl hbA hS h1 dL_law_898 ?_
  refine qn_pub (a := 54) (as := [.int (xs (i + 1).toNatClampNeg)]) (rest := []) hx hb hml hown hGw ql_X8_judge hO8 rfl rfl rfl (Nat.le_of_ble_eq_true rfl) ⟨(Nat.le_of_ble_eq_true rfl), (Nat.le_of_ble_eq_true rfl)⟩ hcs dL_law_899 hl.1 hK hP hD hS hA hE (fun H locs hP hD hS => ?_)
  refine lv_aload_n hx hb dL_law_902 rfl (lv_at hl 2 rfl) ?_
  refine lv_aload_n hx hb dL_law_903 rfl (lv_at hl 0 rfl) ?_
  refine lv_iload_n hx hb dL_law_904 rfl (lv_at hl 3 rfl) ?_
  refine lv_iconst (v := 1) hx hb dL_law_905 (by decide) ?_
  refine lv_iadd hx hb dL_law_906 ?_
  refine va_sld hx hb hX hbl hbA hS h1 dL_law_907 ?_
  refine qn_pub (a := 55) (as := [.int (xs (i + 1).toNatClampNeg)]) (rest := [.int x]) hx hb hml hown hGw ql_X9_judge hO9 rfl rfl rfl (Nat.le_of_ble_eq_true rfl) ⟨(Nat.le_of_ble_eq_true rfl), (Nat.le_of_ble_eq_true rfl)⟩ hcs dL_law_908 hl.1 hK hP hD hS hA hE (fun H locs hP hD hS => ?_)
  refine lv_icmp_eq (tgt := 1353) hx hb dL_law_911 (by decide) (fun _ => ?_) (fun hc => absurd rfl hc)
  exact kk σ2 G' H locs hG' hC2 hM2 hP hD hS

set_option maxHeartbeats 1000000 in
theorem ql_c24 {p : Program} {l : Launch} {e : Env} {s : State} {m : MethodId} {below : List Frame} {meth : Method} {c : Code} {b L : Nat} {xs : Nat → Int32} {α : Nat → Nat} {cA cR : ClassId} {D : va_G} {Q : State → Prop} {H : Heap} {locs : List Loc} {cells slots : Nat} {σ : qm_St} {G : gg_T} {i : Int32} {ls : Array Slot} (LW : qn_Lw p s m c b L xs α cA cR D) (hG : gg_ok G) (hC : CG σ G) (hM : MG σ G) (h1 : vp_in (i + 1) L) (h2 : vp_in (i + 2) L) (h3 : vp_in (i + 3) L) (h4 : vp_in (i + 4) L) (h5 : vp_in (i + 5) L) (h6 : vp_in (i + 6) L) (hl : lv_has ls 4 [(0, .ref b), (1, .ref (α 54)), (2, .ref (α 55)), (3, .int i)]) (hP : va_P D vwCl (qm_W α cA cR qm_lay σ) H) (hD : va_D (fun q => s.heap.size ≤ q) (qm_W α cA cR qm_lay σ)) (hS : va_S (fun q => s.heap.size ≤ q) s.heap H locs) (hcs : cells ≤ room_1.cells ∧ slots ≤ room_1.slots)
    (kk : ∀ (σ' : qm_St) (G' : gg_T) (H1 : Heap) (locs1 : List Loc), gg_ok G' → CG σ' G' → MG σ' G' → va_P D vwCl (qm_W α cA cR qm_lay σ') H1 → va_D (fun q => s.heap.size ≤ q) (qm_W α cA cR qm_lay σ') → va_S (fun q => s.heap.size ≤ q) s.heap H1 locs1 → W p l e room_1 s m #[Value.ref b] below meth c H1 locs1 cells slots Q (F0 m 1353 ls [])) :
    W p l e room_1 s m #[Value.ref b] below meth c H locs cells slots Q (F0 m 916 ls []) := by
  obtain ⟨hx, hb, hml, hown, hGw, hX, hbl, hK, hE⟩ := LW
  have hA : ∀ q : Nat, s.heap.size ≤ q → (fun q : Nat => s.heap.size ≤ q) q := fun _ h => h
  have hbA : ¬ (fun q : Nat => s.heap.size ≤ q) b := Nat.not_le.mpr hbl
  obtain ⟨T, X, P, Im, S⟩ := G
  obtain ⟨r, G', hG', h8, h9⟩ := j_plans hG (xs (i + 1).toNatClampNeg) (xs (i + 2).toNatClampNeg)
  obtain ⟨σ1, hO8, hC1, hs1⟩ := h8 σ hC
  obtain ⟨σ2, hO9, hM2, hs2⟩ := h9 σ1 (hM.smC hs1)
  have hC2 := hC1.smM hG' hs2
  obtain ⟨x, rfl⟩ := qn_okI hO8 rfl
  refine lv_aload_n hx hb dL_law_916 rfl (lv_at hl 1 rfl) ?_
  refine lv_aload_n hx hb dL_law_917 rfl (lv_at hl 0 rfl) ?_
  refine lv_iload_n hx hb dL_law_918 rfl (lv_at hl 3 rfl) ?_
  refine lv_iconst (v := 1) hx hb dL_law_919 (by decide) ?_
  refine lv_iadd hx hb dL_law_920 ?_
  refine va_sld hx hb hX hbl hbA hS h1 dL_law_921 ?_
  refine lv_aload_n hx hb dL_law_922 rfl (lv_at hl 0 rfl) ?_
  refine lv_iload_n hx hb dL_law_923 rfl (lv_at hl 3 rfl) ?_
  refine lv_iconst (v := 2) hx hb dL_law_924 (by decide) ?_
  refine lv_iadd hx hb dL_law_925 ?_
  refine va_sld hx hb hX hbl hbA hS h2 dL_law_926 ?_
  refine qn_pub (a := 54) (as := [.int (xs (i + 1).toNatClampNeg), .int (xs (i + 2).toNatClampNeg)]) (rest := []) hx hb hml hown hGw ql_X8_plans hO8 rfl rfl rfl (Nat.le_of_ble_eq_true rfl) ⟨(Nat.le_of_ble_eq_true rfl), (Nat.le_of_ble_eq_true rfl)⟩ hcs dL_law_927 hl.1 hK hP hD hS hA hE (fun H locs hP hD hS => ?_)
  refine lv_aload_n hx hb dL_law_930 rfl (lv_at hl 2 rfl) ?_
  refine lv_aload_n hx hb dL_law_931 rfl (lv_at hl 0 rfl) ?_
  refine lv_iload_n hx hb dL_law_932 rfl (lv_at hl 3 rfl) ?_
  refine lv_iconst (v := 1) hx hb dL_law_933 (by decide) ?_
  refine lv_iadd hx hb dL_law_934 ?_
  refine va_sld hx hb hX hbl hbA hS h1 dL_law_935 ?_
  refine lv_aload_n hx hb dL_law_936 rfl (lv_at hl 0 rfl) ?_
  refine lv_iload_n hx hb dL_law_937 rfl (lv_at hl 3 rfl) ?_
  refine lv_iconst (v := 2) hx hb dL_law_938 (by decide) ?_
  refine lv_iadd hx hb dL_law_939 ?_
  refine va_sld hx hb hX hbl hbA hS h2 dL_law_940 ?_
  refine qn_pub (a := 55) (as := [.int (xs (i + 1).toNatClampNeg), .int (xs (i + 2).toNatClampNeg)]) (rest := [.int x]) hx hb hml hown hGw ql_X9_plans hO9 rfl rfl rfl (Nat.le_of_ble_eq_true rfl) ⟨(Nat.le_of_ble_eq_true rfl), (Nat.le_of_ble_eq_true rfl)⟩ hcs dL_law_941 hl.1 hK hP hD hS hA hE (fun H locs hP hD hS => ?_)
  refine lv_icmp_eq (tgt := 1353) hx hb dL_law_944 (by decide) (fun _ => ?_) (fun hc => absurd rfl hc)
  exact kk σ2 G' H locs hG' hC2 hM2 hP hD hS

set_option maxHeartbeats 1000000 in
theorem ql_c25 {p : Program} {l : Launch} {e : Env} {s : State} {m : MethodId} {below : List Frame} {meth : Method} {c : Code} {b L : Nat} {xs : Nat → Int32} {α : Nat → Nat} {cA cR : ClassId} {D : va_G} {Q : State → Prop} {H : Heap} {locs : List Loc} {cells slots : Nat} {σ : qm_St} {G : gg_T} {i : Int32} {ls : Array Slot} (LW : qn_Lw p s m c b L xs α cA cR D) (hG : gg_ok G) (hC : CG σ G) (hM : MG σ G) (h1 : vp_in (i + 1) L) (h2 : vp_in (i + 2) L) (h3 : vp_in (i + 3) L) (h4 : vp_in (i + 4) L) (h5 : vp_in (i + 5) L) (h6 : vp_in (i + 6) L) (hl : lv_has ls 4 [(0, .ref b), (1, .ref (α 54)), (2, .ref (α 55)), (3, .int i)]) (hP : va_P D vwCl (qm_W α cA cR qm_lay σ) H) (hD : va_D (fun q => s.heap.size ≤ q) (qm_W α cA cR qm_lay σ)) (hS : va_S (fun q => s.heap.size ≤ q) s.heap H locs) (hcs : cells ≤ room_1.cells ∧ slots ≤ room_1.slots)
    (kk : ∀ (σ' : qm_St) (G' : gg_T) (H1 : Heap) (locs1 : List Loc), gg_ok G' → CG σ' G' → MG σ' G' → va_P D vwCl (qm_W α cA cR qm_lay σ') H1 → va_D (fun q => s.heap.size ≤ q) (qm_W α cA cR qm_lay σ') → va_S (fun q => s.heap.size ≤ q) s.heap H1 locs1 → W p l e room_1 s m #[Value.ref b] below meth c H1 locs1 cells slots Q (F0 m 1353 ls [])) :
    W p l e room_1 s m #[Value.ref b] below meth c H locs cells slots Q (F0 m 949 ls []) := by
  obtain ⟨hx, hb, hml, hown, hGw, hX, hbl, hK, hE⟩ := LW
  have hA : ∀ q : Nat, s.heap.size ≤ q → (fun q : Nat => s.heap.size ≤ q) q := fun _ h => h
  have hbA : ¬ (fun q : Nat => s.heap.size ≤ q) b := Nat.not_le.mpr hbl
  obtain ⟨T, X, P, Im, S⟩ := G
  obtain ⟨r, G', hG', h8, h9⟩ := j_film hG (xs (i + 1).toNatClampNeg)
  obtain ⟨σ1, hO8, hC1, hs1⟩ := h8 σ hC
  obtain ⟨σ2, hO9, hM2, hs2⟩ := h9 σ1 (hM.smC hs1)
  have hC2 := hC1.smM hG' hs2
  obtain ⟨x, rfl⟩ := qn_okI hO8 rfl
  refine lv_aload_n hx hb dL_law_949 rfl (lv_at hl 1 rfl) ?_
  refine lv_aload_n hx hb dL_law_950 rfl (lv_at hl 0 rfl) ?_
  refine lv_iload_n hx hb dL_law_951 rfl (lv_at hl 3 rfl) ?_
  refine lv_iconst (v := 1) hx hb dL_law_952 (by decide) ?_
  refine lv_iadd hx hb dL_law_953 ?_
  refine va_sld hx hb hX hbl hbA hS h1 dL_law_954 ?_
  refine qn_pub (a := 54) (as := [.int (xs (i + 1).toNatClampNeg)]) (rest := []) hx hb hml hown hGw ql_X8_film hO8 rfl rfl rfl (Nat.le_of_ble_eq_true rfl) ⟨(Nat.le_of_ble_eq_true rfl), (Nat.le_of_ble_eq_true rfl)⟩ hcs dL_law_955 hl.1 hK hP hD hS hA hE (fun H locs hP hD hS => ?_)
  refine lv_aload_n hx hb dL_law_958 rfl (lv_at hl 2 rfl) ?_
  refine lv_aload_n hx hb dL_law_959 rfl (lv_at hl 0 rfl) ?_
  refine lv_iload_n hx hb dL_law_960 rfl (lv_at hl 3 rfl) ?_
  refine lv_iconst (v := 1) hx hb dL_law_961 (by decide) ?_
  refine lv_iadd hx hb dL_law_962 ?_
  refine va_sld hx hb hX hbl hbA hS h1 dL_law_963 ?_
  refine qn_pub (a := 55) (as := [.int (xs (i + 1).toNatClampNeg)]) (rest := [.int x]) hx hb hml hown hGw ql_X9_film hO9 rfl rfl rfl (Nat.le_of_ble_eq_true rfl) ⟨(Nat.le_of_ble_eq_true rfl), (Nat.le_of_ble_eq_true rfl)⟩ hcs dL_law_964 hl.1 hK hP hD hS hA hE (fun H locs hP hD hS => ?_)
  refine lv_icmp_eq (tgt := 1353) hx hb dL_law_967 (by decide) (fun _ => ?_) (fun hc => absurd rfl hc)
  exact kk σ2 G' H locs hG' hC2 hM2 hP hD hS

set_option maxHeartbeats 1000000 in
theorem ql_c26 {p : Program} {l : Launch} {e : Env} {s : State} {m : MethodId} {below : List Frame} {meth : Method} {c : Code} {b L : Nat} {xs : Nat → Int32} {α : Nat → Nat} {cA cR : ClassId} {D : va_G} {Q : State → Prop} {H : Heap} {locs : List Loc} {cells slots : Nat} {σ : qm_St} {G : gg_T} {i : Int32} {ls : Array Slot} (LW : qn_Lw p s m c b L xs α cA cR D) (hG : gg_ok G) (hC : CG σ G) (hM : MG σ G) (h1 : vp_in (i + 1) L) (h2 : vp_in (i + 2) L) (h3 : vp_in (i + 3) L) (h4 : vp_in (i + 4) L) (h5 : vp_in (i + 5) L) (h6 : vp_in (i + 6) L) (hl : lv_has ls 4 [(0, .ref b), (1, .ref (α 54)), (2, .ref (α 55)), (3, .int i)]) (hP : va_P D vwCl (qm_W α cA cR qm_lay σ) H) (hD : va_D (fun q => s.heap.size ≤ q) (qm_W α cA cR qm_lay σ)) (hS : va_S (fun q => s.heap.size ≤ q) s.heap H locs) (hcs : cells ≤ room_1.cells ∧ slots ≤ room_1.slots)
    (kk : ∀ (σ' : qm_St) (G' : gg_T) (H1 : Heap) (locs1 : List Loc), gg_ok G' → CG σ' G' → MG σ' G' → va_P D vwCl (qm_W α cA cR qm_lay σ') H1 → va_D (fun q => s.heap.size ≤ q) (qm_W α cA cR qm_lay σ') → va_S (fun q => s.heap.size ≤ q) s.heap H1 locs1 → W p l e room_1 s m #[Value.ref b] below meth c H1 locs1 cells slots Q (F0 m 1353 ls [])) :
    W p l e room_1 s m #[Value.ref b] below meth c H locs cells slots Q (F0 m 972 ls []) := by
  obtain ⟨hx, hb, hml, hown, hGw, hX, hbl, hK, hE⟩ := LW
  have hA : ∀ q : Nat, s.heap.size ≤ q → (fun q : Nat => s.heap.size ≤ q) q := fun _ h => h
  have hbA : ¬ (fun q : Nat => s.heap.size ≤ q) b := Nat.not_le.mpr hbl
  obtain ⟨T, X, P, Im, S⟩ := G
  obtain ⟨r, G', hG', h8, h9⟩ := j_laws hG (xs (i + 1).toNatClampNeg) (xs (i + 2).toNatClampNeg) (xs (i + 3).toNatClampNeg)
  obtain ⟨σ1, hO8, hC1, hs1⟩ := h8 σ hC
  obtain ⟨σ2, hO9, hM2, hs2⟩ := h9 σ1 (hM.smC hs1)
  have hC2 := hC1.smM hG' hs2
  obtain ⟨x, rfl⟩ := qn_okI hO8 rfl
  refine lv_aload_n hx hb dL_law_972 rfl (lv_at hl 1 rfl) ?_
  refine lv_aload_n hx hb dL_law_973 rfl (lv_at hl 0 rfl) ?_
  refine lv_iload_n hx hb dL_law_974 rfl (lv_at hl 3 rfl) ?_
  refine lv_iconst (v := 1) hx hb dL_law_975 (by decide) ?_
  refine lv_iadd hx hb dL_law_976 ?_
  refine va_sld hx hb hX hbl hbA hS h1 dL_law_977 ?_
  refine lv_aload_n hx hb dL_law_978 rfl (lv_at hl 0 rfl) ?_
  refine lv_iload_n hx hb dL_law_979 rfl (lv_at hl 3 rfl) ?_
  refine lv_iconst (v := 2) hx hb dL_law_980 (by decide) ?_
  refine lv_iadd hx hb dL_law_981 ?_
  refine va_sld hx hb hX hbl hbA hS h2 dL_law_982 ?_
  refine lv_aload_n hx hb dL_law_983 rfl (lv_at hl 0 rfl) ?_
  refine lv_iload_n hx hb dL_law_984 rfl (lv_at hl 3 rfl) ?_
  refine lv_iconst (v := 3) hx hb dL_law_985 (by decide) ?_
  refine lv_iadd hx hb dL_law_986 ?_
  refine va_sld hx hb hX hbl hbA hS h3 dL_law_987 ?_
  refine qn_pub (a := 54) (as := [.int (xs (i + 1).toNatClampNeg), .int (xs (i + 2).toNatClampNeg), .int (xs (i + 3).toNatClampNeg)]) (rest := []) hx hb hml hown hGw ql_X8_laws hO8 rfl rfl rfl (Nat.le_of_ble_eq_true rfl) ⟨(Nat.le_of_ble_eq_true rfl), (Nat.le_of_ble_eq_true rfl)⟩ hcs dL_law_988 hl.1 hK hP hD hS hA hE (fun H locs hP hD hS => ?_)
  refine lv_aload_n hx hb dL_law_991 rfl (lv_at hl 2 rfl) ?_
  refine lv_aload_n hx hb dL_law_992 rfl (lv_at hl 0 rfl) ?_
  refine lv_iload_n hx hb dL_law_993 rfl (lv_at hl 3 rfl) ?_
  refine lv_iconst (v := 1) hx hb dL_law_994 (by decide) ?_
  refine lv_iadd hx hb dL_law_995 ?_
  refine va_sld hx hb hX hbl hbA hS h1 dL_law_996 ?_
  refine lv_aload_n hx hb dL_law_997 rfl (lv_at hl 0 rfl) ?_
  refine lv_iload_n hx hb dL_law_998 rfl (lv_at hl 3 rfl) ?_
  refine lv_iconst (v := 2) hx hb dL_law_999 (by decide) ?_
  refine lv_iadd hx hb dL_law_1000 ?_
  refine va_sld hx hb hX hbl hbA hS h2 dL_law_1001 ?_
  refine lv_aload_n hx hb dL_law_1002 rfl (lv_at hl 0 rfl) ?_
  refine lv_iload_n hx hb dL_law_1003 rfl (lv_at hl 3 rfl) ?_
  refine lv_iconst (v := 3) hx hb dL_law_1004 (by decide) ?_
  refine lv_iadd hx hb dL_law_1005 ?_
  refine va_sld hx hb hX hbl hbA hS h3 dL_law_1006 ?_
  refine qn_pub (a := 55) (as := [.int (xs (i + 1).toNatClampNeg), .int (xs (i + 2).toNatClampNeg), .int (xs (i + 3).toNatClampNeg)]) (rest := [.int x]) hx hb hml hown hGw ql_X9_laws hO9 rfl rfl rfl (Nat.le_of_ble_eq_true rfl) ⟨(Nat.le_of_ble_eq_true rfl), (Nat.le_of_ble_eq_true rfl)⟩ hcs dL_law_1007 hl.1 hK hP hD hS hA hE (fun H locs hP hD hS => ?_)
  refine lv_icmp_eq (tgt := 1353) hx hb dL_law_1010 (by decide) (fun _ => ?_) (fun hc => absurd rfl hc)
  exact kk σ2 G' H locs hG' hC2 hM2 hP hD hS

set_option maxHeartbeats 1000000 in
theorem ql_c27 {p : Program} {l : Launch} {e : Env} {s : State} {m : MethodId} {below : List Frame} {meth : Method} {c : Code} {b L : Nat} {xs : Nat → Int32} {α : Nat → Nat} {cA cR : ClassId} {D : va_G} {Q : State → Prop} {H : Heap} {locs : List Loc} {cells slots : Nat} {σ : qm_St} {G : gg_T} {i : Int32} {ls : Array Slot} (LW : qn_Lw p s m c b L xs α cA cR D) (hG : gg_ok G) (hC : CG σ G) (hM : MG σ G) (h1 : vp_in (i + 1) L) (h2 : vp_in (i + 2) L) (h3 : vp_in (i + 3) L) (h4 : vp_in (i + 4) L) (h5 : vp_in (i + 5) L) (h6 : vp_in (i + 6) L) (hl : lv_has ls 4 [(0, .ref b), (1, .ref (α 54)), (2, .ref (α 55)), (3, .int i)]) (hP : va_P D vwCl (qm_W α cA cR qm_lay σ) H) (hD : va_D (fun q => s.heap.size ≤ q) (qm_W α cA cR qm_lay σ)) (hS : va_S (fun q => s.heap.size ≤ q) s.heap H locs) (hcs : cells ≤ room_1.cells ∧ slots ≤ room_1.slots)
    (kk : ∀ (σ' : qm_St) (G' : gg_T) (H1 : Heap) (locs1 : List Loc), gg_ok G' → CG σ' G' → MG σ' G' → va_P D vwCl (qm_W α cA cR qm_lay σ') H1 → va_D (fun q => s.heap.size ≤ q) (qm_W α cA cR qm_lay σ') → va_S (fun q => s.heap.size ≤ q) s.heap H1 locs1 → W p l e room_1 s m #[Value.ref b] below meth c H1 locs1 cells slots Q (F0 m 1353 ls [])) :
    W p l e room_1 s m #[Value.ref b] below meth c H locs cells slots Q (F0 m 1015 ls []) := by
  obtain ⟨hx, hb, hml, hown, hGw, hX, hbl, hK, hE⟩ := LW
  have hA : ∀ q : Nat, s.heap.size ≤ q → (fun q : Nat => s.heap.size ≤ q) q := fun _ h => h
  have hbA : ¬ (fun q : Nat => s.heap.size ≤ q) b := Nat.not_le.mpr hbl
  obtain ⟨T, X, P, Im, S⟩ := G
  obtain ⟨r, G', hG', h8, h9⟩ := j_drawn hG (xs (i + 1).toNatClampNeg)
  obtain ⟨σ1, hO8, hC1, hs1⟩ := h8 σ hC
  obtain ⟨σ2, hO9, hM2, hs2⟩ := h9 σ1 (hM.smC hs1)
  have hC2 := hC1.smM hG' hs2
  obtain ⟨x, rfl⟩ := qn_okI hO8 rfl
  refine lv_aload_n hx hb dL_law_1015 rfl (lv_at hl 1 rfl) ?_
  refine lv_aload_n hx hb dL_law_1016 rfl (lv_at hl 0 rfl) ?_
  refine lv_iload_n hx hb dL_law_1017 rfl (lv_at hl 3 rfl) ?_
  refine lv_iconst (v := 1) hx hb dL_law_1018 (by decide) ?_
  refine lv_iadd hx hb dL_law_1019 ?_
  refine va_sld hx hb hX hbl hbA hS h1 dL_law_1020 ?_
  refine qn_pub (a := 54) (as := [.int (xs (i + 1).toNatClampNeg)]) (rest := []) hx hb hml hown hGw ql_X8_drawn hO8 rfl rfl rfl (Nat.le_of_ble_eq_true rfl) ⟨(Nat.le_of_ble_eq_true rfl), (Nat.le_of_ble_eq_true rfl)⟩ hcs dL_law_1021 hl.1 hK hP hD hS hA hE (fun H locs hP hD hS => ?_)
  refine lv_aload_n hx hb dL_law_1024 rfl (lv_at hl 2 rfl) ?_
  refine lv_aload_n hx hb dL_law_1025 rfl (lv_at hl 0 rfl) ?_
  refine lv_iload_n hx hb dL_law_1026 rfl (lv_at hl 3 rfl) ?_
  refine lv_iconst (v := 1) hx hb dL_law_1027 (by decide) ?_
  refine lv_iadd hx hb dL_law_1028 ?_
  refine va_sld hx hb hX hbl hbA hS h1 dL_law_1029 ?_
  refine qn_pub (a := 55) (as := [.int (xs (i + 1).toNatClampNeg)]) (rest := [.int x]) hx hb hml hown hGw ql_X9_drawn hO9 rfl rfl rfl (Nat.le_of_ble_eq_true rfl) ⟨(Nat.le_of_ble_eq_true rfl), (Nat.le_of_ble_eq_true rfl)⟩ hcs dL_law_1030 hl.1 hK hP hD hS hA hE (fun H locs hP hD hS => ?_)
  refine lv_icmp_eq (tgt := 1353) hx hb dL_law_1033 (by decide) (fun _ => ?_) (fun hc => absurd rfl hc)
  exact kk σ2 G' H locs hG' hC2 hM2 hP hD hS

set_option maxHeartbeats 1000000 in
theorem ql_c28 {p : Program} {l : Launch} {e : Env} {s : State} {m : MethodId} {below : List Frame} {meth : Method} {c : Code} {b L : Nat} {xs : Nat → Int32} {α : Nat → Nat} {cA cR : ClassId} {D : va_G} {Q : State → Prop} {H : Heap} {locs : List Loc} {cells slots : Nat} {σ : qm_St} {G : gg_T} {i : Int32} {ls : Array Slot} (LW : qn_Lw p s m c b L xs α cA cR D) (hG : gg_ok G) (hC : CG σ G) (hM : MG σ G) (h1 : vp_in (i + 1) L) (h2 : vp_in (i + 2) L) (h3 : vp_in (i + 3) L) (h4 : vp_in (i + 4) L) (h5 : vp_in (i + 5) L) (h6 : vp_in (i + 6) L) (hl : lv_has ls 4 [(0, .ref b), (1, .ref (α 54)), (2, .ref (α 55)), (3, .int i)]) (hP : va_P D vwCl (qm_W α cA cR qm_lay σ) H) (hD : va_D (fun q => s.heap.size ≤ q) (qm_W α cA cR qm_lay σ)) (hS : va_S (fun q => s.heap.size ≤ q) s.heap H locs) (hcs : cells ≤ room_1.cells ∧ slots ≤ room_1.slots)
    (kk : ∀ (σ' : qm_St) (G' : gg_T) (H1 : Heap) (locs1 : List Loc), gg_ok G' → CG σ' G' → MG σ' G' → va_P D vwCl (qm_W α cA cR qm_lay σ') H1 → va_D (fun q => s.heap.size ≤ q) (qm_W α cA cR qm_lay σ') → va_S (fun q => s.heap.size ≤ q) s.heap H1 locs1 → W p l e room_1 s m #[Value.ref b] below meth c H1 locs1 cells slots Q (F0 m 1353 ls [])) :
    W p l e room_1 s m #[Value.ref b] below meth c H locs cells slots Q (F0 m 1038 ls []) := by
  obtain ⟨hx, hb, hml, hown, hGw, hX, hbl, hK, hE⟩ := LW
  have hA : ∀ q : Nat, s.heap.size ≤ q → (fun q : Nat => s.heap.size ≤ q) q := fun _ h => h
  have hbA : ¬ (fun q : Nat => s.heap.size ≤ q) b := Nat.not_le.mpr hbl
  obtain ⟨T, X, P, Im, S⟩ := G
  obtain ⟨r, G', hG', h8, h9⟩ := j_odds hG (xs (i + 1).toNatClampNeg) (xs (i + 2).toNatClampNeg) (xs (i + 3).toNatClampNeg) (xs (i + 4).toNatClampNeg)
  obtain ⟨σ1, hO8, hC1, hs1⟩ := h8 σ hC
  obtain ⟨σ2, hO9, hM2, hs2⟩ := h9 σ1 (hM.smC hs1)
  have hC2 := hC1.smM hG' hs2
  obtain ⟨x, rfl⟩ := qn_okL hO8 rfl
  refine lv_aload_n hx hb dL_law_1038 rfl (lv_at hl 1 rfl) ?_
  refine lv_aload_n hx hb dL_law_1039 rfl (lv_at hl 0 rfl) ?_
  refine lv_iload_n hx hb dL_law_1040 rfl (lv_at hl 3 rfl) ?_
  refine lv_iconst (v := 1) hx hb dL_law_1041 (by decide) ?_
  refine lv_iadd hx hb dL_law_1042 ?_
  refine va_sld hx hb hX hbl hbA hS h1 dL_law_1043 ?_
  refine lv_aload_n hx hb dL_law_1044 rfl (lv_at hl 0 rfl) ?_
  refine lv_iload_n hx hb dL_law_1045 rfl (lv_at hl 3 rfl) ?_
  refine lv_iconst (v := 2) hx hb dL_law_1046 (by decide) ?_
  refine lv_iadd hx hb dL_law_1047 ?_
  refine va_sld hx hb hX hbl hbA hS h2 dL_law_1048 ?_
  refine lv_aload_n hx hb dL_law_1049 rfl (lv_at hl 0 rfl) ?_
  refine lv_iload_n hx hb dL_law_1050 rfl (lv_at hl 3 rfl) ?_
  refine lv_iconst (v := 3) hx hb dL_law_1051 (by decide) ?_
  refine lv_iadd hx hb dL_law_1052 ?_
  refine va_sld hx hb hX hbl hbA hS h3 dL_law_1053 ?_
  refine lv_aload_n hx hb dL_law_1054 rfl (lv_at hl 0 rfl) ?_
  refine lv_iload_n hx hb dL_law_1055 rfl (lv_at hl 3 rfl) ?_
  refine lv_iconst (v := 4) hx hb dL_law_1056 (by decide) ?_
  refine lv_iadd hx hb dL_law_1057 ?_
  refine va_sld hx hb hX hbl hbA hS h4 dL_law_1058 ?_
  refine qn_pub (a := 54) (as := [.int (xs (i + 1).toNatClampNeg), .int (xs (i + 2).toNatClampNeg), .int (xs (i + 3).toNatClampNeg), .int (xs (i + 4).toNatClampNeg)]) (rest := []) hx hb hml hown hGw ql_X8_odds hO8 rfl rfl rfl (Nat.le_of_ble_eq_true rfl) ⟨(Nat.le_of_ble_eq_true rfl), (Nat.le_of_ble_eq_true rfl)⟩ hcs dL_law_1059 hl.1 hK hP hD hS hA hE (fun H locs hP hD hS => ?_)
  refine lv_aload_n hx hb dL_law_1062 rfl (lv_at hl 2 rfl) ?_
  refine lv_aload_n hx hb dL_law_1063 rfl (lv_at hl 0 rfl) ?_
  refine lv_iload_n hx hb dL_law_1064 rfl (lv_at hl 3 rfl) ?_
  refine lv_iconst (v := 1) hx hb dL_law_1065 (by decide) ?_
  refine lv_iadd hx hb dL_law_1066 ?_
  refine va_sld hx hb hX hbl hbA hS h1 dL_law_1067 ?_
  refine lv_aload_n hx hb dL_law_1068 rfl (lv_at hl 0 rfl) ?_
  refine lv_iload_n hx hb dL_law_1069 rfl (lv_at hl 3 rfl) ?_
  refine lv_iconst (v := 2) hx hb dL_law_1070 (by decide) ?_
  refine lv_iadd hx hb dL_law_1071 ?_
  refine va_sld hx hb hX hbl hbA hS h2 dL_law_1072 ?_
  refine lv_aload_n hx hb dL_law_1073 rfl (lv_at hl 0 rfl) ?_
  refine lv_iload_n hx hb dL_law_1074 rfl (lv_at hl 3 rfl) ?_
  refine lv_iconst (v := 3) hx hb dL_law_1075 (by decide) ?_
  refine lv_iadd hx hb dL_law_1076 ?_
  refine va_sld hx hb hX hbl hbA hS h3 dL_law_1077 ?_
  refine lv_aload_n hx hb dL_law_1078 rfl (lv_at hl 0 rfl) ?_
  refine lv_iload_n hx hb dL_law_1079 rfl (lv_at hl 3 rfl) ?_
  refine lv_iconst (v := 4) hx hb dL_law_1080 (by decide) ?_
  refine lv_iadd hx hb dL_law_1081 ?_
  refine va_sld hx hb hX hbl hbA hS h4 dL_law_1082 ?_
  refine qn_pub (a := 55) (as := [.int (xs (i + 1).toNatClampNeg), .int (xs (i + 2).toNatClampNeg), .int (xs (i + 3).toNatClampNeg), .int (xs (i + 4).toNatClampNeg)]) (rest := [.long x]) hx hb hml hown hGw ql_X9_odds hO9 rfl rfl rfl (Nat.le_of_ble_eq_true rfl) ⟨(Nat.le_of_ble_eq_true rfl), (Nat.le_of_ble_eq_true rfl)⟩ hcs dL_law_1083 hl.1 hK hP hD hS hA hE (fun H locs hP hD hS => ?_)
  refine W.lcmp hx hb dL_law_1086 ?_
  refine lv_if_eq (tgt := 1353) hx hb dL_law_1087 (by decide) (fun _ => ?_) (fun hc => absurd (ql_cmp x) hc)
  exact kk σ2 G' H locs hG' hC2 hM2 hP hD hS

set_option maxHeartbeats 1000000 in
theorem ql_c29 {p : Program} {l : Launch} {e : Env} {s : State} {m : MethodId} {below : List Frame} {meth : Method} {c : Code} {b L : Nat} {xs : Nat → Int32} {α : Nat → Nat} {cA cR : ClassId} {D : va_G} {Q : State → Prop} {H : Heap} {locs : List Loc} {cells slots : Nat} {σ : qm_St} {G : gg_T} {i : Int32} {ls : Array Slot} (LW : qn_Lw p s m c b L xs α cA cR D) (hG : gg_ok G) (hC : CG σ G) (hM : MG σ G) (h1 : vp_in (i + 1) L) (h2 : vp_in (i + 2) L) (h3 : vp_in (i + 3) L) (h4 : vp_in (i + 4) L) (h5 : vp_in (i + 5) L) (h6 : vp_in (i + 6) L) (hl : lv_has ls 4 [(0, .ref b), (1, .ref (α 54)), (2, .ref (α 55)), (3, .int i)]) (hP : va_P D vwCl (qm_W α cA cR qm_lay σ) H) (hD : va_D (fun q => s.heap.size ≤ q) (qm_W α cA cR qm_lay σ)) (hS : va_S (fun q => s.heap.size ≤ q) s.heap H locs) (hcs : cells ≤ room_1.cells ∧ slots ≤ room_1.slots)
    (kk : ∀ (σ' : qm_St) (G' : gg_T) (H1 : Heap) (locs1 : List Loc), gg_ok G' → CG σ' G' → MG σ' G' → va_P D vwCl (qm_W α cA cR qm_lay σ') H1 → va_D (fun q => s.heap.size ≤ q) (qm_W α cA cR qm_lay σ') → va_S (fun q => s.heap.size ≤ q) s.heap H1 locs1 → W p l e room_1 s m #[Value.ref b] below meth c H1 locs1 cells slots Q (F0 m 1353 ls [])) :
    W p l e room_1 s m #[Value.ref b] below meth c H locs cells slots Q (F0 m 1092 ls []) := by
  obtain ⟨hx, hb, hml, hown, hGw, hX, hbl, hK, hE⟩ := LW
  have hA : ∀ q : Nat, s.heap.size ≤ q → (fun q : Nat => s.heap.size ≤ q) q := fun _ h => h
  have hbA : ¬ (fun q : Nat => s.heap.size ≤ q) b := Nat.not_le.mpr hbl
  obtain ⟨T, X, P, Im, S⟩ := G
  obtain ⟨r, G', hG', h8, h9⟩ := j_image hG
  obtain ⟨σ1, hO8, hC1, hs1⟩ := h8 σ hC
  obtain ⟨σ2, hO9, hM2, hs2⟩ := h9 σ1 (hM.smC hs1)
  have hC2 := hC1.smM hG' hs2
  obtain ⟨x, rfl⟩ := qn_okI hO8 rfl
  refine lv_aload_n hx hb dL_law_1092 rfl (lv_at hl 1 rfl) ?_
  refine qn_pub (a := 54) (as := []) (rest := []) hx hb hml hown hGw ql_X8_image hO8 rfl rfl rfl (Nat.le_of_ble_eq_true rfl) ⟨(Nat.le_of_ble_eq_true rfl), (Nat.le_of_ble_eq_true rfl)⟩ hcs dL_law_1093 hl.1 hK hP hD hS hA hE (fun H locs hP hD hS => ?_)
  refine lv_aload_n hx hb dL_law_1096 rfl (lv_at hl 2 rfl) ?_
  refine qn_pub (a := 55) (as := []) (rest := [.int x]) hx hb hml hown hGw ql_X9_image hO9 rfl rfl rfl (Nat.le_of_ble_eq_true rfl) ⟨(Nat.le_of_ble_eq_true rfl), (Nat.le_of_ble_eq_true rfl)⟩ hcs dL_law_1097 hl.1 hK hP hD hS hA hE (fun H locs hP hD hS => ?_)
  refine lv_icmp_eq (tgt := 1353) hx hb dL_law_1100 (by decide) (fun _ => ?_) (fun hc => absurd rfl hc)
  exact kk σ2 G' H locs hG' hC2 hM2 hP hD hS

set_option maxHeartbeats 1000000 in
theorem ql_c30 {p : Program} {l : Launch} {e : Env} {s : State} {m : MethodId} {below : List Frame} {meth : Method} {c : Code} {b L : Nat} {xs : Nat → Int32} {α : Nat → Nat} {cA cR : ClassId} {D : va_G} {Q : State → Prop} {H : Heap} {locs : List Loc} {cells slots : Nat} {σ : qm_St} {G : gg_T} {i : Int32} {ls : Array Slot} (LW : qn_Lw p s m c b L xs α cA cR D) (hG : gg_ok G) (hC : CG σ G) (hM : MG σ G) (h1 : vp_in (i + 1) L) (h2 : vp_in (i + 2) L) (h3 : vp_in (i + 3) L) (h4 : vp_in (i + 4) L) (h5 : vp_in (i + 5) L) (h6 : vp_in (i + 6) L) (hl : lv_has ls 4 [(0, .ref b), (1, .ref (α 54)), (2, .ref (α 55)), (3, .int i)]) (hP : va_P D vwCl (qm_W α cA cR qm_lay σ) H) (hD : va_D (fun q => s.heap.size ≤ q) (qm_W α cA cR qm_lay σ)) (hS : va_S (fun q => s.heap.size ≤ q) s.heap H locs) (hcs : cells ≤ room_1.cells ∧ slots ≤ room_1.slots)
    (kk : ∀ (σ' : qm_St) (G' : gg_T) (H1 : Heap) (locs1 : List Loc), gg_ok G' → CG σ' G' → MG σ' G' → va_P D vwCl (qm_W α cA cR qm_lay σ') H1 → va_D (fun q => s.heap.size ≤ q) (qm_W α cA cR qm_lay σ') → va_S (fun q => s.heap.size ≤ q) s.heap H1 locs1 → W p l e room_1 s m #[Value.ref b] below meth c H1 locs1 cells slots Q (F0 m 1353 ls [])) :
    W p l e room_1 s m #[Value.ref b] below meth c H locs cells slots Q (F0 m 1105 ls []) := by
  obtain ⟨hx, hb, hml, hown, hGw, hX, hbl, hK, hE⟩ := LW
  have hA : ∀ q : Nat, s.heap.size ≤ q → (fun q : Nat => s.heap.size ≤ q) q := fun _ h => h
  have hbA : ¬ (fun q : Nat => s.heap.size ≤ q) b := Nat.not_le.mpr hbl
  obtain ⟨T, X, P, Im, S⟩ := G
  obtain ⟨r, G', hG', h8, h9⟩ := j_back hG
  obtain ⟨σ1, hO8, hC1, hs1⟩ := h8 σ hC
  obtain ⟨σ2, hO9, hM2, hs2⟩ := h9 σ1 (hM.smC hs1)
  have hC2 := hC1.smM hG' hs2
  obtain ⟨x, rfl⟩ := qn_okI hO8 rfl
  refine lv_aload_n hx hb dL_law_1105 rfl (lv_at hl 1 rfl) ?_
  refine qn_pub (a := 54) (as := []) (rest := []) hx hb hml hown hGw ql_X8_back hO8 rfl rfl rfl (Nat.le_of_ble_eq_true rfl) ⟨(Nat.le_of_ble_eq_true rfl), (Nat.le_of_ble_eq_true rfl)⟩ hcs dL_law_1106 hl.1 hK hP hD hS hA hE (fun H locs hP hD hS => ?_)
  refine lv_aload_n hx hb dL_law_1109 rfl (lv_at hl 2 rfl) ?_
  refine qn_pub (a := 55) (as := []) (rest := [.int x]) hx hb hml hown hGw ql_X9_back hO9 rfl rfl rfl (Nat.le_of_ble_eq_true rfl) ⟨(Nat.le_of_ble_eq_true rfl), (Nat.le_of_ble_eq_true rfl)⟩ hcs dL_law_1110 hl.1 hK hP hD hS hA hE (fun H locs hP hD hS => ?_)
  refine lv_icmp_eq (tgt := 1353) hx hb dL_law_1113 (by decide) (fun _ => ?_) (fun hc => absurd rfl hc)
  exact kk σ2 G' H locs hG' hC2 hM2 hP hD hS

set_option maxHeartbeats 1000000 in
theorem ql_c31 {p : Program} {l : Launch} {e : Env} {s : State} {m : MethodId} {below : List Frame} {meth : Method} {c : Code} {b L : Nat} {xs : Nat → Int32} {α : Nat → Nat} {cA cR : ClassId} {D : va_G} {Q : State → Prop} {H : Heap} {locs : List Loc} {cells slots : Nat} {σ : qm_St} {G : gg_T} {i : Int32} {ls : Array Slot} (LW : qn_Lw p s m c b L xs α cA cR D) (hG : gg_ok G) (hC : CG σ G) (hM : MG σ G) (h1 : vp_in (i + 1) L) (h2 : vp_in (i + 2) L) (h3 : vp_in (i + 3) L) (h4 : vp_in (i + 4) L) (h5 : vp_in (i + 5) L) (h6 : vp_in (i + 6) L) (hl : lv_has ls 4 [(0, .ref b), (1, .ref (α 54)), (2, .ref (α 55)), (3, .int i)]) (hP : va_P D vwCl (qm_W α cA cR qm_lay σ) H) (hD : va_D (fun q => s.heap.size ≤ q) (qm_W α cA cR qm_lay σ)) (hS : va_S (fun q => s.heap.size ≤ q) s.heap H locs) (hcs : cells ≤ room_1.cells ∧ slots ≤ room_1.slots)
    (kk : ∀ (σ' : qm_St) (G' : gg_T) (H1 : Heap) (locs1 : List Loc), gg_ok G' → CG σ' G' → MG σ' G' → va_P D vwCl (qm_W α cA cR qm_lay σ') H1 → va_D (fun q => s.heap.size ≤ q) (qm_W α cA cR qm_lay σ') → va_S (fun q => s.heap.size ≤ q) s.heap H1 locs1 → W p l e room_1 s m #[Value.ref b] below meth c H1 locs1 cells slots Q (F0 m 1353 ls [])) :
    W p l e room_1 s m #[Value.ref b] below meth c H locs cells slots Q (F0 m 1118 ls []) := by
  obtain ⟨hx, hb, hml, hown, hGw, hX, hbl, hK, hE⟩ := LW
  have hA : ∀ q : Nat, s.heap.size ≤ q → (fun q : Nat => s.heap.size ≤ q) q := fun _ h => h
  have hbA : ¬ (fun q : Nat => s.heap.size ≤ q) b := Nat.not_le.mpr hbl
  obtain ⟨T, X, P, Im, S⟩ := G
  obtain ⟨r, G', hG', h8, h9⟩ := j_sheet hG (xs (i + 1).toNatClampNeg) (xs (i + 2).toNatClampNeg) (xs (i + 3).toNatClampNeg)
  obtain ⟨σ1, hO8, hC1, hs1⟩ := h8 σ hC
  obtain ⟨σ2, hO9, hM2, hs2⟩ := h9 σ1 (hM.smC hs1)
  have hC2 := hC1.smM hG' hs2
  obtain ⟨x, rfl⟩ := qn_okI hO8 rfl
  refine lv_aload_n hx hb dL_law_1118 rfl (lv_at hl 1 rfl) ?_
  refine lv_aload_n hx hb dL_law_1119 rfl (lv_at hl 0 rfl) ?_
  refine lv_iload_n hx hb dL_law_1120 rfl (lv_at hl 3 rfl) ?_
  refine lv_iconst (v := 1) hx hb dL_law_1121 (by decide) ?_
  refine lv_iadd hx hb dL_law_1122 ?_
  refine va_sld hx hb hX hbl hbA hS h1 dL_law_1123 ?_
  refine lv_aload_n hx hb dL_law_1124 rfl (lv_at hl 0 rfl) ?_
  refine lv_iload_n hx hb dL_law_1125 rfl (lv_at hl 3 rfl) ?_
  refine lv_iconst (v := 2) hx hb dL_law_1126 (by decide) ?_
  refine lv_iadd hx hb dL_law_1127 ?_
  refine va_sld hx hb hX hbl hbA hS h2 dL_law_1128 ?_
  refine lv_aload_n hx hb dL_law_1129 rfl (lv_at hl 0 rfl) ?_
  refine lv_iload_n hx hb dL_law_1130 rfl (lv_at hl 3 rfl) ?_
  refine lv_iconst (v := 3) hx hb dL_law_1131 (by decide) ?_
  refine lv_iadd hx hb dL_law_1132 ?_
  refine va_sld hx hb hX hbl hbA hS h3 dL_law_1133 ?_
  refine qn_pub (a := 54) (as := [.int (xs (i + 1).toNatClampNeg), .int (xs (i + 2).toNatClampNeg), .int (xs (i + 3).toNatClampNeg)]) (rest := []) hx hb hml hown hGw ql_X8_sheet hO8 rfl rfl rfl (Nat.le_of_ble_eq_true rfl) ⟨(Nat.le_of_ble_eq_true rfl), (Nat.le_of_ble_eq_true rfl)⟩ hcs dL_law_1134 hl.1 hK hP hD hS hA hE (fun H locs hP hD hS => ?_)
  refine lv_aload_n hx hb dL_law_1137 rfl (lv_at hl 2 rfl) ?_
  refine lv_aload_n hx hb dL_law_1138 rfl (lv_at hl 0 rfl) ?_
  refine lv_iload_n hx hb dL_law_1139 rfl (lv_at hl 3 rfl) ?_
  refine lv_iconst (v := 1) hx hb dL_law_1140 (by decide) ?_
  refine lv_iadd hx hb dL_law_1141 ?_
  refine va_sld hx hb hX hbl hbA hS h1 dL_law_1142 ?_
  refine lv_aload_n hx hb dL_law_1143 rfl (lv_at hl 0 rfl) ?_
  refine lv_iload_n hx hb dL_law_1144 rfl (lv_at hl 3 rfl) ?_
  refine lv_iconst (v := 2) hx hb dL_law_1145 (by decide) ?_
  refine lv_iadd hx hb dL_law_1146 ?_
  refine va_sld hx hb hX hbl hbA hS h2 dL_law_1147 ?_
  refine lv_aload_n hx hb dL_law_1148 rfl (lv_at hl 0 rfl) ?_
  refine lv_iload_n hx hb dL_law_1149 rfl (lv_at hl 3 rfl) ?_
  refine lv_iconst (v := 3) hx hb dL_law_1150 (by decide) ?_
  refine lv_iadd hx hb dL_law_1151 ?_
  refine va_sld hx hb hX hbl hbA hS h3 dL_law_1152 ?_
  refine qn_pub (a := 55) (as := [.int (xs (i + 1).toNatClampNeg), .int (xs (i + 2).toNatClampNeg), .int (xs (i + 3).toNatClampNeg)]) (rest := [.int x]) hx hb hml hown hGw ql_X9_sheet hO9 rfl rfl rfl (Nat.le_of_ble_eq_true rfl) ⟨(Nat.le_of_ble_eq_true rfl), (Nat.le_of_ble_eq_true rfl)⟩ hcs dL_law_1153 hl.1 hK hP hD hS hA hE (fun H locs hP hD hS => ?_)
  refine lv_icmp_eq (tgt := 1353) hx hb dL_law_1156 (by decide) (fun _ => ?_) (fun hc => absurd rfl hc)
  exact kk σ2 G' H locs hG' hC2 hM2 hP hD hS

set_option maxHeartbeats 1000000 in
theorem ql_c32 {p : Program} {l : Launch} {e : Env} {s : State} {m : MethodId} {below : List Frame} {meth : Method} {c : Code} {b L : Nat} {xs : Nat → Int32} {α : Nat → Nat} {cA cR : ClassId} {D : va_G} {Q : State → Prop} {H : Heap} {locs : List Loc} {cells slots : Nat} {σ : qm_St} {G : gg_T} {i : Int32} {ls : Array Slot} (LW : qn_Lw p s m c b L xs α cA cR D) (hG : gg_ok G) (hC : CG σ G) (hM : MG σ G) (h1 : vp_in (i + 1) L) (h2 : vp_in (i + 2) L) (h3 : vp_in (i + 3) L) (h4 : vp_in (i + 4) L) (h5 : vp_in (i + 5) L) (h6 : vp_in (i + 6) L) (hl : lv_has ls 4 [(0, .ref b), (1, .ref (α 54)), (2, .ref (α 55)), (3, .int i)]) (hP : va_P D vwCl (qm_W α cA cR qm_lay σ) H) (hD : va_D (fun q => s.heap.size ≤ q) (qm_W α cA cR qm_lay σ)) (hS : va_S (fun q => s.heap.size ≤ q) s.heap H locs) (hcs : cells ≤ room_1.cells ∧ slots ≤ room_1.slots)
    (kk : ∀ (σ' : qm_St) (G' : gg_T) (H1 : Heap) (locs1 : List Loc), gg_ok G' → CG σ' G' → MG σ' G' → va_P D vwCl (qm_W α cA cR qm_lay σ') H1 → va_D (fun q => s.heap.size ≤ q) (qm_W α cA cR qm_lay σ') → va_S (fun q => s.heap.size ≤ q) s.heap H1 locs1 → W p l e room_1 s m #[Value.ref b] below meth c H1 locs1 cells slots Q (F0 m 1353 ls [])) :
    W p l e room_1 s m #[Value.ref b] below meth c H locs cells slots Q (F0 m 1161 ls []) := by
  obtain ⟨hx, hb, hml, hown, hGw, hX, hbl, hK, hE⟩ := LW
  have hA : ∀ q : Nat, s.heap.size ≤ q → (fun q : Nat => s.heap.size ≤ q) q := fun _ h => h
  have hbA : ¬ (fun q : Nat => s.heap.size ≤ q) b := Nat.not_le.mpr hbl
  obtain ⟨T, X, P, Im, S⟩ := G
  obtain ⟨r, G', hG', h8, h9⟩ := j_cell hG (xs (i + 1).toNatClampNeg) (xs (i + 2).toNatClampNeg) (xs (i + 3).toNatClampNeg)
  obtain ⟨σ1, hO8, hC1, hs1⟩ := h8 σ hC
  obtain ⟨σ2, hO9, hM2, hs2⟩ := h9 σ1 (hM.smC hs1)
  have hC2 := hC1.smM hG' hs2
  obtain ⟨x, rfl⟩ := qn_okI hO8 rfl
  refine lv_aload_n hx hb dL_law_1161 rfl (lv_at hl 1 rfl) ?_
  refine lv_aload_n hx hb dL_law_1162 rfl (lv_at hl 0 rfl) ?_
  refine lv_iload_n hx hb dL_law_1163 rfl (lv_at hl 3 rfl) ?_
  refine lv_iconst (v := 1) hx hb dL_law_1164 (by decide) ?_
  refine lv_iadd hx hb dL_law_1165 ?_
  refine va_sld hx hb hX hbl hbA hS h1 dL_law_1166 ?_
  refine lv_aload_n hx hb dL_law_1167 rfl (lv_at hl 0 rfl) ?_
  refine lv_iload_n hx hb dL_law_1168 rfl (lv_at hl 3 rfl) ?_
  refine lv_iconst (v := 2) hx hb dL_law_1169 (by decide) ?_
  refine lv_iadd hx hb dL_law_1170 ?_
  refine va_sld hx hb hX hbl hbA hS h2 dL_law_1171 ?_
  refine lv_aload_n hx hb dL_law_1172 rfl (lv_at hl 0 rfl) ?_
  refine lv_iload_n hx hb dL_law_1173 rfl (lv_at hl 3 rfl) ?_
  refine lv_iconst (v := 3) hx hb dL_law_1174 (by decide) ?_
  refine lv_iadd hx hb dL_law_1175 ?_
  refine va_sld hx hb hX hbl hbA hS h3 dL_law_1176 ?_
  refine qn_pub (a := 54) (as := [.int (xs (i + 1).toNatClampNeg), .int (xs (i + 2).toNatClampNeg), .int (xs (i + 3).toNatClampNeg)]) (rest := []) hx hb hml hown hGw ql_X8_cell hO8 rfl rfl rfl (Nat.le_of_ble_eq_true rfl) ⟨(Nat.le_of_ble_eq_true rfl), (Nat.le_of_ble_eq_true rfl)⟩ hcs dL_law_1177 hl.1 hK hP hD hS hA hE (fun H locs hP hD hS => ?_)
  refine lv_aload_n hx hb dL_law_1180 rfl (lv_at hl 2 rfl) ?_
  refine lv_aload_n hx hb dL_law_1181 rfl (lv_at hl 0 rfl) ?_
  refine lv_iload_n hx hb dL_law_1182 rfl (lv_at hl 3 rfl) ?_
  refine lv_iconst (v := 1) hx hb dL_law_1183 (by decide) ?_
  refine lv_iadd hx hb dL_law_1184 ?_
  refine va_sld hx hb hX hbl hbA hS h1 dL_law_1185 ?_
  refine lv_aload_n hx hb dL_law_1186 rfl (lv_at hl 0 rfl) ?_
  refine lv_iload_n hx hb dL_law_1187 rfl (lv_at hl 3 rfl) ?_
  refine lv_iconst (v := 2) hx hb dL_law_1188 (by decide) ?_
  refine lv_iadd hx hb dL_law_1189 ?_
  refine va_sld hx hb hX hbl hbA hS h2 dL_law_1190 ?_
  refine lv_aload_n hx hb dL_law_1191 rfl (lv_at hl 0 rfl) ?_
  refine lv_iload_n hx hb dL_law_1192 rfl (lv_at hl 3 rfl) ?_
  refine lv_iconst (v := 3) hx hb dL_law_1193 (by decide) ?_
  refine lv_iadd hx hb dL_law_1194 ?_
  refine va_sld hx hb hX hbl hbA hS h3 dL_law_1195 ?_
  refine qn_pub (a := 55) (as := [.int (xs (i + 1).toNatClampNeg), .int (xs (i + 2).toNatClampNeg), .int (xs (i + 3).toNatClampNeg)]) (rest := [.int x]) hx hb hml hown hGw ql_X9_cell hO9 rfl rfl rfl (Nat.le_of_ble_eq_true rfl) ⟨(Nat.le_of_ble_eq_true rfl), (Nat.le_of_ble_eq_true rfl)⟩ hcs dL_law_1196 hl.1 hK hP hD hS hA hE (fun H locs hP hD hS => ?_)
  refine lv_icmp_eq (tgt := 1353) hx hb dL_law_1199 (by decide) (fun _ => ?_) (fun hc => absurd rfl hc)
  exact kk σ2 G' H locs hG' hC2 hM2 hP hD hS

set_option maxHeartbeats 1000000 in
theorem ql_c33 {p : Program} {l : Launch} {e : Env} {s : State} {m : MethodId} {below : List Frame} {meth : Method} {c : Code} {b L : Nat} {xs : Nat → Int32} {α : Nat → Nat} {cA cR : ClassId} {D : va_G} {Q : State → Prop} {H : Heap} {locs : List Loc} {cells slots : Nat} {σ : qm_St} {G : gg_T} {i : Int32} {ls : Array Slot} (LW : qn_Lw p s m c b L xs α cA cR D) (hG : gg_ok G) (hC : CG σ G) (hM : MG σ G) (h1 : vp_in (i + 1) L) (h2 : vp_in (i + 2) L) (h3 : vp_in (i + 3) L) (h4 : vp_in (i + 4) L) (h5 : vp_in (i + 5) L) (h6 : vp_in (i + 6) L) (hl : lv_has ls 4 [(0, .ref b), (1, .ref (α 54)), (2, .ref (α 55)), (3, .int i)]) (hP : va_P D vwCl (qm_W α cA cR qm_lay σ) H) (hD : va_D (fun q => s.heap.size ≤ q) (qm_W α cA cR qm_lay σ)) (hS : va_S (fun q => s.heap.size ≤ q) s.heap H locs) (hcs : cells ≤ room_1.cells ∧ slots ≤ room_1.slots)
    (kk : ∀ (σ' : qm_St) (G' : gg_T) (H1 : Heap) (locs1 : List Loc), gg_ok G' → CG σ' G' → MG σ' G' → va_P D vwCl (qm_W α cA cR qm_lay σ') H1 → va_D (fun q => s.heap.size ≤ q) (qm_W α cA cR qm_lay σ') → va_S (fun q => s.heap.size ≤ q) s.heap H1 locs1 → W p l e room_1 s m #[Value.ref b] below meth c H1 locs1 cells slots Q (F0 m 1353 ls [])) :
    W p l e room_1 s m #[Value.ref b] below meth c H locs cells slots Q (F0 m 1204 ls []) := by
  obtain ⟨hx, hb, hml, hown, hGw, hX, hbl, hK, hE⟩ := LW
  have hA : ∀ q : Nat, s.heap.size ≤ q → (fun q : Nat => s.heap.size ≤ q) q := fun _ h => h
  have hbA : ¬ (fun q : Nat => s.heap.size ≤ q) b := Nat.not_le.mpr hbl
  obtain ⟨T, X, P, Im, S⟩ := G
  obtain ⟨r, G', hG', h8, h9⟩ := j_copy hG (xs (i + 1).toNatClampNeg) (xs (i + 2).toNatClampNeg) (xs (i + 3).toNatClampNeg) (xs (i + 4).toNatClampNeg) (xs (i + 5).toNatClampNeg)
  obtain ⟨σ1, hO8, hC1, hs1⟩ := h8 σ hC
  obtain ⟨σ2, hO9, hM2, hs2⟩ := h9 σ1 (hM.smC hs1)
  have hC2 := hC1.smM hG' hs2
  obtain ⟨x, rfl⟩ := qn_okI hO8 rfl
  refine lv_aload_n hx hb dL_law_1204 rfl (lv_at hl 1 rfl) ?_
  refine lv_aload_n hx hb dL_law_1205 rfl (lv_at hl 0 rfl) ?_
  refine lv_iload_n hx hb dL_law_1206 rfl (lv_at hl 3 rfl) ?_
  refine lv_iconst (v := 1) hx hb dL_law_1207 (by decide) ?_
  refine lv_iadd hx hb dL_law_1208 ?_
  refine va_sld hx hb hX hbl hbA hS h1 dL_law_1209 ?_
  refine lv_aload_n hx hb dL_law_1210 rfl (lv_at hl 0 rfl) ?_
  refine lv_iload_n hx hb dL_law_1211 rfl (lv_at hl 3 rfl) ?_
  refine lv_iconst (v := 2) hx hb dL_law_1212 (by decide) ?_
  refine lv_iadd hx hb dL_law_1213 ?_
  refine va_sld hx hb hX hbl hbA hS h2 dL_law_1214 ?_
  refine lv_aload_n hx hb dL_law_1215 rfl (lv_at hl 0 rfl) ?_
  refine lv_iload_n hx hb dL_law_1216 rfl (lv_at hl 3 rfl) ?_
  refine lv_iconst (v := 3) hx hb dL_law_1217 (by decide) ?_
  refine lv_iadd hx hb dL_law_1218 ?_
  refine va_sld hx hb hX hbl hbA hS h3 dL_law_1219 ?_
  refine lv_aload_n hx hb dL_law_1220 rfl (lv_at hl 0 rfl) ?_
  refine lv_iload_n hx hb dL_law_1221 rfl (lv_at hl 3 rfl) ?_
  refine lv_iconst (v := 4) hx hb dL_law_1222 (by decide) ?_
  refine lv_iadd hx hb dL_law_1223 ?_
  refine va_sld hx hb hX hbl hbA hS h4 dL_law_1224 ?_
  refine lv_aload_n hx hb dL_law_1225 rfl (lv_at hl 0 rfl) ?_
  refine lv_iload_n hx hb dL_law_1226 rfl (lv_at hl 3 rfl) ?_
  refine lv_iconst (v := 5) hx hb dL_law_1227 (by decide) ?_
  refine lv_iadd hx hb dL_law_1228 ?_
  refine va_sld hx hb hX hbl hbA hS h5 dL_law_1229 ?_
  refine qn_pub (a := 54) (as := [.int (xs (i + 1).toNatClampNeg), .int (xs (i + 2).toNatClampNeg), .int (xs (i + 3).toNatClampNeg), .int (xs (i + 4).toNatClampNeg), .int (xs (i + 5).toNatClampNeg)]) (rest := []) hx hb hml hown hGw ql_X8_copy hO8 rfl rfl rfl (Nat.le_of_ble_eq_true rfl) ⟨(Nat.le_of_ble_eq_true rfl), (Nat.le_of_ble_eq_true rfl)⟩ hcs dL_law_1230 hl.1 hK hP hD hS hA hE (fun H locs hP hD hS => ?_)
  refine lv_aload_n hx hb dL_law_1233 rfl (lv_at hl 2 rfl) ?_
  refine lv_aload_n hx hb dL_law_1234 rfl (lv_at hl 0 rfl) ?_
  refine lv_iload_n hx hb dL_law_1235 rfl (lv_at hl 3 rfl) ?_
  refine lv_iconst (v := 1) hx hb dL_law_1236 (by decide) ?_
  refine lv_iadd hx hb dL_law_1237 ?_
  refine va_sld hx hb hX hbl hbA hS h1 dL_law_1238 ?_
  refine lv_aload_n hx hb dL_law_1239 rfl (lv_at hl 0 rfl) ?_
  refine lv_iload_n hx hb dL_law_1240 rfl (lv_at hl 3 rfl) ?_
  refine lv_iconst (v := 2) hx hb dL_law_1241 (by decide) ?_
  refine lv_iadd hx hb dL_law_1242 ?_
  refine va_sld hx hb hX hbl hbA hS h2 dL_law_1243 ?_
  refine lv_aload_n hx hb dL_law_1244 rfl (lv_at hl 0 rfl) ?_
  refine lv_iload_n hx hb dL_law_1245 rfl (lv_at hl 3 rfl) ?_
  refine lv_iconst (v := 3) hx hb dL_law_1246 (by decide) ?_
  refine lv_iadd hx hb dL_law_1247 ?_
  refine va_sld hx hb hX hbl hbA hS h3 dL_law_1248 ?_
  refine lv_aload_n hx hb dL_law_1249 rfl (lv_at hl 0 rfl) ?_
  refine lv_iload_n hx hb dL_law_1250 rfl (lv_at hl 3 rfl) ?_
  refine lv_iconst (v := 4) hx hb dL_law_1251 (by decide) ?_
  refine lv_iadd hx hb dL_law_1252 ?_
  refine va_sld hx hb hX hbl hbA hS h4 dL_law_1253 ?_
  refine lv_aload_n hx hb dL_law_1254 rfl (lv_at hl 0 rfl) ?_
  refine lv_iload_n hx hb dL_law_1255 rfl (lv_at hl 3 rfl) ?_
  refine lv_iconst (v := 5) hx hb dL_law_1256 (by decide) ?_
  refine lv_iadd hx hb dL_law_1257 ?_
  refine va_sld hx hb hX hbl hbA hS h5 dL_law_1258 ?_
  refine qn_pub (a := 55) (as := [.int (xs (i + 1).toNatClampNeg), .int (xs (i + 2).toNatClampNeg), .int (xs (i + 3).toNatClampNeg), .int (xs (i + 4).toNatClampNeg), .int (xs (i + 5).toNatClampNeg)]) (rest := [.int x]) hx hb hml hown hGw ql_X9_copy hO9 rfl rfl rfl (Nat.le_of_ble_eq_true rfl) ⟨(Nat.le_of_ble_eq_true rfl), (Nat.le_of_ble_eq_true rfl)⟩ hcs dL_law_1259 hl.1 hK hP hD hS hA hE (fun H locs hP hD hS => ?_)
  refine lv_icmp_eq (tgt := 1353) hx hb dL_law_1262 (by decide) (fun _ => ?_) (fun hc => absurd rfl hc)
  exact kk σ2 G' H locs hG' hC2 hM2 hP hD hS

set_option maxHeartbeats 1000000 in
theorem ql_c34 {p : Program} {l : Launch} {e : Env} {s : State} {m : MethodId} {below : List Frame} {meth : Method} {c : Code} {b L : Nat} {xs : Nat → Int32} {α : Nat → Nat} {cA cR : ClassId} {D : va_G} {Q : State → Prop} {H : Heap} {locs : List Loc} {cells slots : Nat} {σ : qm_St} {G : gg_T} {i : Int32} {ls : Array Slot} (LW : qn_Lw p s m c b L xs α cA cR D) (hG : gg_ok G) (hC : CG σ G) (hM : MG σ G) (h1 : vp_in (i + 1) L) (h2 : vp_in (i + 2) L) (h3 : vp_in (i + 3) L) (h4 : vp_in (i + 4) L) (h5 : vp_in (i + 5) L) (h6 : vp_in (i + 6) L) (hl : lv_has ls 4 [(0, .ref b), (1, .ref (α 54)), (2, .ref (α 55)), (3, .int i)]) (hP : va_P D vwCl (qm_W α cA cR qm_lay σ) H) (hD : va_D (fun q => s.heap.size ≤ q) (qm_W α cA cR qm_lay σ)) (hS : va_S (fun q => s.heap.size ≤ q) s.heap H locs) (hcs : cells ≤ room_1.cells ∧ slots ≤ room_1.slots)
    (kk : ∀ (σ' : qm_St) (G' : gg_T) (H1 : Heap) (locs1 : List Loc), gg_ok G' → CG σ' G' → MG σ' G' → va_P D vwCl (qm_W α cA cR qm_lay σ') H1 → va_D (fun q => s.heap.size ≤ q) (qm_W α cA cR qm_lay σ') → va_S (fun q => s.heap.size ≤ q) s.heap H1 locs1 → W p l e room_1 s m #[Value.ref b] below meth c H1 locs1 cells slots Q (F0 m 1353 ls [])) :
    W p l e room_1 s m #[Value.ref b] below meth c H locs cells slots Q (F0 m 1267 ls []) := by
  obtain ⟨hx, hb, hml, hown, hGw, hX, hbl, hK, hE⟩ := LW
  have hA : ∀ q : Nat, s.heap.size ≤ q → (fun q : Nat => s.heap.size ≤ q) q := fun _ h => h
  have hbA : ¬ (fun q : Nat => s.heap.size ≤ q) b := Nat.not_le.mpr hbl
  obtain ⟨T, X, P, Im, S⟩ := G
  obtain ⟨r, G', hG', h8, h9⟩ := j_lotsBy hG (xs (i + 1).toNatClampNeg) (xs (i + 2).toNatClampNeg) (xs (i + 3).toNatClampNeg) (xs (i + 4).toNatClampNeg)
  obtain ⟨σ1, hO8, hC1, hs1⟩ := h8 σ hC
  obtain ⟨σ2, hO9, hM2, hs2⟩ := h9 σ1 (hM.smC hs1)
  have hC2 := hC1.smM hG' hs2
  obtain ⟨x, rfl⟩ := qn_okI hO8 rfl
  refine lv_aload_n hx hb dL_law_1267 rfl (lv_at hl 1 rfl) ?_
  refine lv_aload_n hx hb dL_law_1268 rfl (lv_at hl 0 rfl) ?_
  refine lv_iload_n hx hb dL_law_1269 rfl (lv_at hl 3 rfl) ?_
  refine lv_iconst (v := 1) hx hb dL_law_1270 (by decide) ?_
  refine lv_iadd hx hb dL_law_1271 ?_
  refine va_sld hx hb hX hbl hbA hS h1 dL_law_1272 ?_
  refine lv_aload_n hx hb dL_law_1273 rfl (lv_at hl 0 rfl) ?_
  refine lv_iload_n hx hb dL_law_1274 rfl (lv_at hl 3 rfl) ?_
  refine lv_iconst (v := 2) hx hb dL_law_1275 (by decide) ?_
  refine lv_iadd hx hb dL_law_1276 ?_
  refine va_sld hx hb hX hbl hbA hS h2 dL_law_1277 ?_
  refine lv_aload_n hx hb dL_law_1278 rfl (lv_at hl 0 rfl) ?_
  refine lv_iload_n hx hb dL_law_1279 rfl (lv_at hl 3 rfl) ?_
  refine lv_iconst (v := 3) hx hb dL_law_1280 (by decide) ?_
  refine lv_iadd hx hb dL_law_1281 ?_
  refine va_sld hx hb hX hbl hbA hS h3 dL_law_1282 ?_
  refine lv_aload_n hx hb dL_law_1283 rfl (lv_at hl 0 rfl) ?_
  refine lv_iload_n hx hb dL_law_1284 rfl (lv_at hl 3 rfl) ?_
  refine lv_iconst (v := 4) hx hb dL_law_1285 (by decide) ?_
  refine lv_iadd hx hb dL_law_1286 ?_
  refine va_sld hx hb hX hbl hbA hS h4 dL_law_1287 ?_
  refine qn_pub (a := 54) (as := [.int (xs (i + 1).toNatClampNeg), .int (xs (i + 2).toNatClampNeg), .int (xs (i + 3).toNatClampNeg), .int (xs (i + 4).toNatClampNeg)]) (rest := []) hx hb hml hown hGw ql_X8_lotsBy hO8 rfl rfl rfl (Nat.le_of_ble_eq_true rfl) ⟨(Nat.le_of_ble_eq_true rfl), (Nat.le_of_ble_eq_true rfl)⟩ hcs dL_law_1288 hl.1 hK hP hD hS hA hE (fun H locs hP hD hS => ?_)
  refine lv_aload_n hx hb dL_law_1291 rfl (lv_at hl 2 rfl) ?_
  refine lv_aload_n hx hb dL_law_1292 rfl (lv_at hl 0 rfl) ?_
  refine lv_iload_n hx hb dL_law_1293 rfl (lv_at hl 3 rfl) ?_
  refine lv_iconst (v := 1) hx hb dL_law_1294 (by decide) ?_
  refine lv_iadd hx hb dL_law_1295 ?_
  refine va_sld hx hb hX hbl hbA hS h1 dL_law_1296 ?_
  refine lv_aload_n hx hb dL_law_1297 rfl (lv_at hl 0 rfl) ?_
  refine lv_iload_n hx hb dL_law_1298 rfl (lv_at hl 3 rfl) ?_
  refine lv_iconst (v := 2) hx hb dL_law_1299 (by decide) ?_
  refine lv_iadd hx hb dL_law_1300 ?_
  refine va_sld hx hb hX hbl hbA hS h2 dL_law_1301 ?_
  refine lv_aload_n hx hb dL_law_1302 rfl (lv_at hl 0 rfl) ?_
  refine lv_iload_n hx hb dL_law_1303 rfl (lv_at hl 3 rfl) ?_
  refine lv_iconst (v := 3) hx hb dL_law_1304 (by decide) ?_
  refine lv_iadd hx hb dL_law_1305 ?_
  refine va_sld hx hb hX hbl hbA hS h3 dL_law_1306 ?_
  refine lv_aload_n hx hb dL_law_1307 rfl (lv_at hl 0 rfl) ?_
  refine lv_iload_n hx hb dL_law_1308 rfl (lv_at hl 3 rfl) ?_
  refine lv_iconst (v := 4) hx hb dL_law_1309 (by decide) ?_
  refine lv_iadd hx hb dL_law_1310 ?_
  refine va_sld hx hb hX hbl hbA hS h4 dL_law_1311 ?_
  refine qn_pub (a := 55) (as := [.int (xs (i + 1).toNatClampNeg), .int (xs (i + 2).toNatClampNeg), .int (xs (i + 3).toNatClampNeg), .int (xs (i + 4).toNatClampNeg)]) (rest := [.int x]) hx hb hml hown hGw ql_X9_lotsBy hO9 rfl rfl rfl (Nat.le_of_ble_eq_true rfl) ⟨(Nat.le_of_ble_eq_true rfl), (Nat.le_of_ble_eq_true rfl)⟩ hcs dL_law_1312 hl.1 hK hP hD hS hA hE (fun H locs hP hD hS => ?_)
  refine lv_icmp_eq (tgt := 1353) hx hb dL_law_1315 (by decide) (fun _ => ?_) (fun hc => absurd rfl hc)
  exact kk σ2 G' H locs hG' hC2 hM2 hP hD hS

set_option maxHeartbeats 1000000 in
theorem ql_c35 {p : Program} {l : Launch} {e : Env} {s : State} {m : MethodId} {below : List Frame} {meth : Method} {c : Code} {b L : Nat} {xs : Nat → Int32} {α : Nat → Nat} {cA cR : ClassId} {D : va_G} {Q : State → Prop} {H : Heap} {locs : List Loc} {cells slots : Nat} {σ : qm_St} {G : gg_T} {i : Int32} {ls : Array Slot} (LW : qn_Lw p s m c b L xs α cA cR D) (hG : gg_ok G) (hC : CG σ G) (hM : MG σ G) (h1 : vp_in (i + 1) L) (h2 : vp_in (i + 2) L) (h3 : vp_in (i + 3) L) (h4 : vp_in (i + 4) L) (h5 : vp_in (i + 5) L) (h6 : vp_in (i + 6) L) (hl : lv_has ls 4 [(0, .ref b), (1, .ref (α 54)), (2, .ref (α 55)), (3, .int i)]) (hP : va_P D vwCl (qm_W α cA cR qm_lay σ) H) (hD : va_D (fun q => s.heap.size ≤ q) (qm_W α cA cR qm_lay σ)) (hS : va_S (fun q => s.heap.size ≤ q) s.heap H locs) (hcs : cells ≤ room_1.cells ∧ slots ≤ room_1.slots)
    (kk : ∀ (σ' : qm_St) (G' : gg_T) (H1 : Heap) (locs1 : List Loc), gg_ok G' → CG σ' G' → MG σ' G' → va_P D vwCl (qm_W α cA cR qm_lay σ') H1 → va_D (fun q => s.heap.size ≤ q) (qm_W α cA cR qm_lay σ') → va_S (fun q => s.heap.size ≤ q) s.heap H1 locs1 → W p l e room_1 s m #[Value.ref b] below meth c H1 locs1 cells slots Q (F0 m 1353 ls [])) :
    W p l e room_1 s m #[Value.ref b] below meth c H locs cells slots Q (F0 m 1320 ls []) := by
  obtain ⟨hx, hb, hml, hown, hGw, hX, hbl, hK, hE⟩ := LW
  have hA : ∀ q : Nat, s.heap.size ≤ q → (fun q : Nat => s.heap.size ≤ q) q := fun _ h => h
  have hbA : ¬ (fun q : Nat => s.heap.size ≤ q) b := Nat.not_le.mpr hbl
  obtain ⟨T, X, P, Im, S⟩ := G
  obtain ⟨r, G', hG', h8, h9⟩ := j_taken hG (xs (i + 1).toNatClampNeg) (xs (i + 2).toNatClampNeg)
  obtain ⟨σ1, hO8, hC1, hs1⟩ := h8 σ hC
  obtain ⟨σ2, hO9, hM2, hs2⟩ := h9 σ1 (hM.smC hs1)
  have hC2 := hC1.smM hG' hs2
  obtain ⟨x, rfl⟩ := qn_okI hO8 rfl
  refine lv_aload_n hx hb dL_law_1320 rfl (lv_at hl 1 rfl) ?_
  refine lv_aload_n hx hb dL_law_1321 rfl (lv_at hl 0 rfl) ?_
  refine lv_iload_n hx hb dL_law_1322 rfl (lv_at hl 3 rfl) ?_
  refine lv_iconst (v := 1) hx hb dL_law_1323 (by decide) ?_
  refine lv_iadd hx hb dL_law_1324 ?_
  refine va_sld hx hb hX hbl hbA hS h1 dL_law_1325 ?_
  refine lv_aload_n hx hb dL_law_1326 rfl (lv_at hl 0 rfl) ?_
  refine lv_iload_n hx hb dL_law_1327 rfl (lv_at hl 3 rfl) ?_
  refine lv_iconst (v := 2) hx hb dL_law_1328 (by decide) ?_
  refine lv_iadd hx hb dL_law_1329 ?_
  refine va_sld hx hb hX hbl hbA hS h2 dL_law_1330 ?_
  refine qn_pub (a := 54) (as := [.int (xs (i + 1).toNatClampNeg), .int (xs (i + 2).toNatClampNeg)]) (rest := []) hx hb hml hown hGw ql_X8_taken hO8 rfl rfl rfl (Nat.le_of_ble_eq_true rfl) ⟨(Nat.le_of_ble_eq_true rfl), (Nat.le_of_ble_eq_true rfl)⟩ hcs dL_law_1331 hl.1 hK hP hD hS hA hE (fun H locs hP hD hS => ?_)
  refine lv_aload_n hx hb dL_law_1334 rfl (lv_at hl 2 rfl) ?_
  refine lv_aload_n hx hb dL_law_1335 rfl (lv_at hl 0 rfl) ?_
  refine lv_iload_n hx hb dL_law_1336 rfl (lv_at hl 3 rfl) ?_
  refine lv_iconst (v := 1) hx hb dL_law_1337 (by decide) ?_
  refine lv_iadd hx hb dL_law_1338 ?_
  refine va_sld hx hb hX hbl hbA hS h1 dL_law_1339 ?_
  refine lv_aload_n hx hb dL_law_1340 rfl (lv_at hl 0 rfl) ?_
  refine lv_iload_n hx hb dL_law_1341 rfl (lv_at hl 3 rfl) ?_
  refine lv_iconst (v := 2) hx hb dL_law_1342 (by decide) ?_
  refine lv_iadd hx hb dL_law_1343 ?_
  refine va_sld hx hb hX hbl hbA hS h2 dL_law_1344 ?_
  refine qn_pub (a := 55) (as := [.int (xs (i + 1).toNatClampNeg), .int (xs (i + 2).toNatClampNeg)]) (rest := [.int x]) hx hb hml hown hGw ql_X9_taken hO9 rfl rfl rfl (Nat.le_of_ble_eq_true rfl) ⟨(Nat.le_of_ble_eq_true rfl), (Nat.le_of_ble_eq_true rfl)⟩ hcs dL_law_1345 hl.1 hK hP hD hS hA hE (fun H locs hP hD hS => ?_)
  refine lv_icmp_eq (tgt := 1353) hx hb dL_law_1348 (by decide) (fun _ => ?_) (fun hc => absurd rfl hc)
  exact kk σ2 G' H locs hG' hC2 hM2 hP hD hS

