/-! ===== the law: its loop ===== -/
def R_law : String := "FirstColourLaw"
def lw_P (b : Addr) (xs : List Int32) (args : Array Value) (s : State) : Prop := args = #[.ref b] ∧ s.IntsAt b xs ∧ xs.length ≤ 3584 ∧ (Jvm.Cond.and given_1 narrow_1).before args s = true
def lw_Q (_ : Array Value) (s : State) (o : Outcome) (t : State) : Prop := o = .returned (some (.int 1)) ∧ Framed s o t [] 600000 7302250
def lw_Z (below : List Frame) (a : Array Value) (s : State) : State → Prop := fun t => ∃ o, t.status = .running ∧ Ended t below o ∧ lw_Q a s o t
/-- the law's own end, with 1 on the stack, nothing written that was there before, its room as the claim has it -/
theorem lw_ret {p : Program} {l : Launch} {e : Env} {s : State} {m : MethodId} {below : List Frame} {meth : Method} {c : Code} {b : Nat} (hx : p.tables.exec = Jvm.exec) (hb : c.code = code) (hr : meth.sig.returnType = ret) (hlocks : meth.locks = false) {pc : Nat} {H : Heap} {ls : Array Slot} (hdg : decode code pc = .ok (.ireturn, 1)) : W p l e room_1 s m #[Value.ref b] below meth c H [] 600000 7302250 (lw_Z below #[Value.ref b] s) (F0 m pc ls [.int 1]) := by
  intro T hT X
  obtain ⟨fs, hret, hrun, hended, hW, hframe⟩ := X.leave (v := some (.int 1)) (hlocks := hlocks) (fun h => by rw [hr] at h; cases h)
  have hmeth' : T.vm.method? m = some meth := X.method'
  refine ⟨T.setFrames fs, ?_, .returned (some (.int 1)), hrun, hended, rfl, ⟨_, rfl⟩, hW, hframe⟩
  jvm_step X.here [X.here.top, hx, hb, hdg, hmeth', hr, ret, narrow_b1]
  (try refine ⟨rfl, ?_⟩); (try refine ⟨rfl, ?_⟩)
  first | (intro acts; rw [hret _ acts rfl rfl rfl]) | rw [hret _ _ rfl rfl rfl]
  exact Steps.refl _
/-- what holds at the law's entry: the machine, the code, the tables' words (any of lw_tbl by 'hts w (by decide +kernel)'), the script of L ints xs at the cell b, what the Statement gives of the start (any of its parts by flat_of_before) -/
def lw_At (p : Program) (s : State) (m : MethodId) (meth : Method) (c : Code) (b L : Nat) (xs : Nat → Int32) : Prop :=
  p.tables.exec = Jvm.exec ∧ c.code = code ∧ meth.sig.returnType = ret ∧ c.maxLocals = 4 ∧ s.vm.findClass R_law = some m.cls ∧ (∀ w ∈ lw_tbl, w.before #[Value.ref b] s = true) ∧ va_X b L xs s s.heap ∧ b < s.heap.size ∧ meth.locks = false ∧ (Jvm.Cond.and given_1 narrow_1).before #[Value.ref b] s = true
theorem ql_gt {n L : Nat} (hn : n ≤ L) (hL : L ≤ 3584) (h : ¬ Int32.ofNat L - 7 < nI n) : n + 7 ≤ L := by
  refine Nat.le_of_not_lt (fun hl => h ?_)
  show nI L - nI 7 < nI n
  rw [Int32.lt_iff_toInt_lt, pk_sub_toInt (a := L) (b := 7) (by omega) (by decide), nI_toInt (by omega)]
  omega
set_option maxHeartbeats 4000000 in
set_option maxRecDepth 100000 in
/-- the law's loop: at its head both sides hold one common state -/
theorem ql_loop {p : Program} {l : Launch} {e : Env} {s : State} {m : MethodId} {below : List Frame} {meth : Method} {c : Code} {b L : Nat} {xs : Nat → Int32} {α : Nat → Nat} {cA cR : ClassId} {D : va_G} {cells slots : Nat} (hL : L ≤ 3584) (LW : qn_Lw p s m c b L xs α cA cR D) (hr : meth.sig.returnType = ret) (hlocks : meth.locks = false) (hcs : cells ≤ 600000 ∧ slots ≤ 7302250) :
    ∀ (r n : Nat), n ≤ L → L + 1 ≤ n + r → ∀ (σ : qm_St) (G : gg_T) (H : Heap) (locs : List Loc) (ls : Array Slot), gg_ok G → CG σ G → MG σ G → va_P D vwCl (qm_W α cA cR qm_lay σ) H → va_D (fun q => s.heap.size ≤ q) (qm_W α cA cR qm_lay σ) → va_S (fun q => s.heap.size ≤ q) s.heap H locs → lv_has ls 4 [(0, .ref b), (1, .ref (α 54)), (2, .ref (α 55)), (3, .int (nI n))] → W p l e room_1 s m #[Value.ref b] below meth c H locs cells slots (lw_Z below #[Value.ref b] s) (F0 m 18 ls []) := by
  intro r
  induction r with
  | zero => intro n h1 h2; exact absurd h2 (by omega)
  | succ r ih =>
    intro n hn hr2 σ G H locs ls hG hC hM hP hD hS hl
    have LW2 := LW
    obtain ⟨hx, hb, hml, hown, hGw, hX, hbl, hK, hE⟩ := LW2
    have hbA : ¬ (fun q : Nat => s.heap.size ≤ q) b := Nat.not_le.mpr hbl
    refine lv_iload_n hx hb dL_law_18 rfl (lv_at hl 3 rfl) ?_
    refine lv_aload_n hx hb dL_law_19 rfl (lv_at hl 0 rfl) ?_
    refine va_slen hx hb hX hbl hbA hS dL_law_20 ?_
    refine lv_bipush (v := 7) hx hb dL_law_21 (by decide) ?_
    refine lv_isub hx hb dL_law_23 ?_
    refine lv_icmp_gt (tgt := 1359) hx hb dL_law_24 (by decide) (fun _ => ?_) (fun hc => ?_)
    · refine lv_iconst (v := 1) hx hb dL_law_1359 (by decide) ?_
      refine va_forget (fun q hq => hS.2.2 q hq) ?_
      refine W.widen (k := 600000) (n := 7302250) hcs.1 hcs.2 ?_
      exact lw_ret hx hb hr hlocks dL_law_1360
    · have hn7 := ql_gt hn hL hc
      have h0 : vp_in (nI n) L := vp_in_nI (by omega) (by omega)
      refine lv_aload_n hx hb dL_law_27 rfl (lv_at hl 0 rfl) ?_
      refine lv_iload_n hx hb dL_law_28 rfl (lv_at hl 3 rfl) ?_
      refine va_sld hx hb hX hbl hbA hS h0 dL_law_29 ?_
      refine lv_bipush (v := 63) hx hb dL_law_30 (by decide) ?_
      refine lv_iand hx hb dL_law_32 ?_
      refine lv_topi (fun x ex => ?_)
      clear ex
      have h1 : vp_in (nI n + 1) L := by rw [show nI n + 1 = nI (n + 1) from nI_add n 1]; exact vp_in_nI (by omega) (by omega)
      have h2 : vp_in (nI n + 2) L := by rw [show nI n + 2 = nI (n + 2) from nI_add n 2]; exact vp_in_nI (by omega) (by omega)
      have h3 : vp_in (nI n + 3) L := by rw [show nI n + 3 = nI (n + 3) from nI_add n 3]; exact vp_in_nI (by omega) (by omega)
      have h4 : vp_in (nI n + 4) L := by rw [show nI n + 4 = nI (n + 4) from nI_add n 4]; exact vp_in_nI (by omega) (by omega)
      have h5 : vp_in (nI n + 5) L := by rw [show nI n + 5 = nI (n + 5) from nI_add n 5]; exact vp_in_nI (by omega) (by omega)
      have h6 : vp_in (nI n + 6) L := by rw [show nI n + 6 = nI (n + 6) from nI_add n 6]; exact vp_in_nI (by omega) (by omega)
      have kk : ∀ (σ' : qm_St) (G' : gg_T) (H1 : Heap) (locs1 : List Loc), gg_ok G' → CG σ' G' → MG σ' G' → va_P D vwCl (qm_W α cA cR qm_lay σ') H1 → va_D (fun q => s.heap.size ≤ q) (qm_W α cA cR qm_lay σ') → va_S (fun q => s.heap.size ≤ q) s.heap H1 locs1 → W p l e room_1 s m #[Value.ref b] below meth c H1 locs1 cells slots (lw_Z below #[Value.ref b] s) (F0 m 1353 ls []) := by
        intro σ' G' H1 locs1 b1 b2 b3 b4 b5 b6
        refine lv_iinc (v := nI (n + 7)) (lv' := [(3, .int (nI (n + 7))), (0, .ref b), (1, .ref (α 54)), (2, .ref (α 55))]) hx hb dL_law_1353 hl (k := 3) rfl (by rw [show Int32.ofInt 7 = nI 7 from by decide]; exact nI_add n 7) (by decide) rfl (fun ls hl => ?_)
        refine lv_goto (tgt := 18) hx hb dL_law_1356 (by decide) ?_
        exact ih (n + 7) (by omega) (by omega) σ' G' H1 locs1 ls b1 b2 b3 b4 b5 b6 (lv_sub hl [1, 2, 3, 0] rfl)
      rcases sw_in (n := 35) (by decide) x with ⟨k, hk, ek⟩ | ho
      · subst ek
        rcases (show k = 0 ∨ k = 1 ∨ k = 2 ∨ k = 3 ∨ k = 4 ∨ k = 5 ∨ k = 6 ∨ k = 7 ∨ k = 8 ∨ k = 9 ∨ k = 10 ∨ k = 11 ∨ k = 12 ∨ k = 13 ∨ k = 14 ∨ k = 15 ∨ k = 16 ∨ k = 17 ∨ k = 18 ∨ k = 19 ∨ k = 20 ∨ k = 21 ∨ k = 22 ∨ k = 23 ∨ k = 24 ∨ k = 25 ∨ k = 26 ∨ k = 27 ∨ k = 28 ∨ k = 29 ∨ k = 30 ∨ k = 31 ∨ k = 32 ∨ k = 33 ∨ k = 34 ∨ k = 35 by omega) with rfl | rfl | rfl | rfl | rfl | rfl | rfl | rfl | rfl | rfl | rfl | rfl | rfl | rfl | rfl | rfl | rfl | rfl | rfl | rfl | rfl | rfl | rfl | rfl | rfl | rfl | rfl | rfl | rfl | rfl | rfl | rfl | rfl | rfl | rfl | rfl
        · exact lv_tableIn (off := 159) (tgt := 192) hx hb dL_law_33 (by decide) (by decide) (by decide) (by decide) (ql_c0 LW hG hC hM h1 h2 h3 h4 h5 h6 hl hP hD hS hcs kk)
        · exact lv_tableIn (off := 182) (tgt := 215) hx hb dL_law_33 (by decide) (by decide) (by decide) (by decide) (ql_c1 LW hG hC hM h1 h2 h3 h4 h5 h6 hl hP hD hS hcs kk)
        · exact lv_tableIn (off := 257) (tgt := 290) hx hb dL_law_33 (by decide) (by decide) (by decide) (by decide) (ql_c2 LW hG hC hM h1 h2 h3 h4 h5 h6 hl hP hD hS hcs kk)
        · exact lv_tableIn (off := 270) (tgt := 303) hx hb dL_law_33 (by decide) (by decide) (by decide) (by decide) (ql_c3 LW hG hC hM h1 h2 h3 h4 h5 h6 hl hP hD hS hcs kk)
        · exact lv_tableIn (off := 293) (tgt := 326) hx hb dL_law_33 (by decide) (by decide) (by decide) (by decide) (ql_c4 LW hG hC hM h1 h2 h3 h4 h5 h6 hl hP hD hS hcs kk)
        · exact lv_tableIn (off := 346) (tgt := 379) hx hb dL_law_33 (by decide) (by decide) (by decide) (by decide) (ql_c5 LW hG hC hM h1 h2 h3 h4 h5 h6 hl hP hD hS hcs kk)
        · exact lv_tableIn (off := 389) (tgt := 422) hx hb dL_law_33 (by decide) (by decide) (by decide) (by decide) (ql_c6 LW hG hC hM h1 h2 h3 h4 h5 h6 hl hP hD hS hcs kk)
        · exact lv_tableIn (off := 422) (tgt := 455) hx hb dL_law_33 (by decide) (by decide) (by decide) (by decide) (ql_c7 LW hG hC hM h1 h2 h3 h4 h5 h6 hl hP hD hS hcs kk)
        · exact lv_tableIn (off := 445) (tgt := 478) hx hb dL_law_33 (by decide) (by decide) (by decide) (by decide) (ql_c8 LW hG hC hM h1 h2 h3 h4 h5 h6 hl hP hD hS hcs kk)
        · exact lv_tableIn (off := 468) (tgt := 501) hx hb dL_law_33 (by decide) (by decide) (by decide) (by decide) (ql_c9 LW hG hC hM h1 h2 h3 h4 h5 h6 hl hP hD hS hcs kk)
        · exact lv_tableIn (off := 491) (tgt := 524) hx hb dL_law_33 (by decide) (by decide) (by decide) (by decide) (ql_c10 LW hG hC hM h1 h2 h3 h4 h5 h6 hl hP hD hS hcs kk)
        · exact lv_tableIn (off := 524) (tgt := 557) hx hb dL_law_33 (by decide) (by decide) (by decide) (by decide) (ql_c11 LW hG hC hM h1 h2 h3 h4 h5 h6 hl hP hD hS hcs kk)
        · exact lv_tableIn (off := 557) (tgt := 590) hx hb dL_law_33 (by decide) (by decide) (by decide) (by decide) (ql_c12 LW hG hC hM h1 h2 h3 h4 h5 h6 hl hP hD hS hcs kk)
        · exact lv_tableIn (off := 590) (tgt := 623) hx hb dL_law_33 (by decide) (by decide) (by decide) (by decide) (ql_c13 LW hG hC hM h1 h2 h3 h4 h5 h6 hl hP hD hS hcs kk)
        · exact lv_tableIn (off := 613) (tgt := 646) hx hb dL_law_33 (by decide) (by decide) (by decide) (by decide) (ql_c14 LW hG hC hM h1 h2 h3 h4 h5 h6 hl hP hD hS hcs kk)
        · exact lv_tableIn (off := 646) (tgt := 679) hx hb dL_law_33 (by decide) (by decide) (by decide) (by decide) (ql_c15 LW hG hC hM h1 h2 h3 h4 h5 h6 hl hP hD hS hcs kk)
        · exact lv_tableIn (off := 659) (tgt := 692) hx hb dL_law_33 (by decide) (by decide) (by decide) (by decide) (ql_c16 LW hG hC hM h1 h2 h3 h4 h5 h6 hl hP hD hS hcs kk)
        · exact lv_tableIn (off := 692) (tgt := 725) hx hb dL_law_33 (by decide) (by decide) (by decide) (by decide) (ql_c17 LW hG hC hM h1 h2 h3 h4 h5 h6 hl hP hD hS hcs kk)
        · exact lv_tableIn (off := 715) (tgt := 748) hx hb dL_law_33 (by decide) (by decide) (by decide) (by decide) (ql_c18 LW hG hC hM h1 h2 h3 h4 h5 h6 hl hP hD hS hcs kk)
        · exact lv_tableIn (off := 758) (tgt := 791) hx hb dL_law_33 (by decide) (by decide) (by decide) (by decide) (ql_c19 LW hG hC hM h1 h2 h3 h4 h5 h6 hl hP hD hS hcs kk)
        · exact lv_tableIn (off := 791) (tgt := 824) hx hb dL_law_33 (by decide) (by decide) (by decide) (by decide) (ql_c20 LW hG hC hM h1 h2 h3 h4 h5 h6 hl hP hD hS hcs kk)
        · exact lv_tableIn (off := 824) (tgt := 857) hx hb dL_law_33 (by decide) (by decide) (by decide) (by decide) (ql_c21 LW hG hC hM h1 h2 h3 h4 h5 h6 hl hP hD hS hcs kk)
        · exact lv_tableIn (off := 847) (tgt := 880) hx hb dL_law_33 (by decide) (by decide) (by decide) (by decide) (ql_c22 LW hG hC hM h1 h2 h3 h4 h5 h6 hl hP hD hS hcs kk)
        · exact lv_tableIn (off := 860) (tgt := 893) hx hb dL_law_33 (by decide) (by decide) (by decide) (by decide) (ql_c23 LW hG hC hM h1 h2 h3 h4 h5 h6 hl hP hD hS hcs kk)
        · exact lv_tableIn (off := 883) (tgt := 916) hx hb dL_law_33 (by decide) (by decide) (by decide) (by decide) (ql_c24 LW hG hC hM h1 h2 h3 h4 h5 h6 hl hP hD hS hcs kk)
        · exact lv_tableIn (off := 916) (tgt := 949) hx hb dL_law_33 (by decide) (by decide) (by decide) (by decide) (ql_c25 LW hG hC hM h1 h2 h3 h4 h5 h6 hl hP hD hS hcs kk)
        · exact lv_tableIn (off := 939) (tgt := 972) hx hb dL_law_33 (by decide) (by decide) (by decide) (by decide) (ql_c26 LW hG hC hM h1 h2 h3 h4 h5 h6 hl hP hD hS hcs kk)
        · exact lv_tableIn (off := 982) (tgt := 1015) hx hb dL_law_33 (by decide) (by decide) (by decide) (by decide) (ql_c27 LW hG hC hM h1 h2 h3 h4 h5 h6 hl hP hD hS hcs kk)
        · exact lv_tableIn (off := 1005) (tgt := 1038) hx hb dL_law_33 (by decide) (by decide) (by decide) (by decide) (ql_c28 LW hG hC hM h1 h2 h3 h4 h5 h6 hl hP hD hS hcs kk)
        · exact lv_tableIn (off := 1059) (tgt := 1092) hx hb dL_law_33 (by decide) (by decide) (by decide) (by decide) (ql_c29 LW hG hC hM h1 h2 h3 h4 h5 h6 hl hP hD hS hcs kk)
        · exact lv_tableIn (off := 1072) (tgt := 1105) hx hb dL_law_33 (by decide) (by decide) (by decide) (by decide) (ql_c30 LW hG hC hM h1 h2 h3 h4 h5 h6 hl hP hD hS hcs kk)
        · exact lv_tableIn (off := 1085) (tgt := 1118) hx hb dL_law_33 (by decide) (by decide) (by decide) (by decide) (ql_c31 LW hG hC hM h1 h2 h3 h4 h5 h6 hl hP hD hS hcs kk)
        · exact lv_tableIn (off := 1128) (tgt := 1161) hx hb dL_law_33 (by decide) (by decide) (by decide) (by decide) (ql_c32 LW hG hC hM h1 h2 h3 h4 h5 h6 hl hP hD hS hcs kk)
        · exact lv_tableIn (off := 1171) (tgt := 1204) hx hb dL_law_33 (by decide) (by decide) (by decide) (by decide) (ql_c33 LW hG hC hM h1 h2 h3 h4 h5 h6 hl hP hD hS hcs kk)
        · exact lv_tableIn (off := 1234) (tgt := 1267) hx hb dL_law_33 (by decide) (by decide) (by decide) (by decide) (ql_c34 LW hG hC hM h1 h2 h3 h4 h5 h6 hl hP hD hS hcs kk)
        · exact lv_tableIn (off := 1287) (tgt := 1320) hx hb dL_law_33 (by decide) (by decide) (by decide) (by decide) (ql_c35 LW hG hC hM h1 h2 h3 h4 h5 h6 hl hP hD hS hcs kk)
      · exact lv_tableOut (tgt := 1353) hx hb dL_law_33 ho (by decide) (kk σ G H locs hG hC hM hP hD hS)
