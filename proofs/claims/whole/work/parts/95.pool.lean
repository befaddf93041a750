/-! ===== the pools hold what the tables say ===== -/
def qm_G : List Cond := lw_tbl.filter goodWord
theorem qm_G_good : qm_goodG qm_G := fun w hw => good_of_word (List.mem_filter.mp hw).2
def qm_inG (w : Cond) : Bool := goodWord w && decide (w ∈ lw_tbl)
theorem qm_inG_mem {w : Cond} (h : qm_inG w = true) : w ∈ qm_G := by
  simp only [qm_inG, Bool.and_eq_true, decide_eq_true_eq] at h
  exact List.mem_filter.mpr ⟨h.2, h.1⟩
theorem qm_allG {ws : List Cond} (h : ws.all qm_inG = true) : ∀ w ∈ ws, w ∈ qm_G := fun w hw => qm_inG_mem (List.all_eq_true.mp h w hw)
set_option maxRecDepth 100000 in
theorem qm_jwG : ∀ w ∈ qm_jw, w ∈ qm_G := qm_allG (by decide +kernel)
def qm_clsP (C : String) (T : u_T) (N : Nat) : Prop := ∃ ty : Nat → FieldType, (∀ w ∈ u_ws C T N, w ∈ qm_G) ∧ (∀ j, j < N → parseFieldDescriptor (T j).2.2.1 = some (ty j)) ∧ ∀ a, a < N → ∀ b, b < N → a ≠ b → (T a).2.1 ≠ (T b).2.1
set_option maxRecDepth 100000 in
theorem qm_cl0 : qm_clsP RX0 TX0 3 := ⟨tyX0, qm_allG (by decide +kernel), tyX0_ok, nmX0⟩
set_option maxRecDepth 100000 in
theorem qm_cl1 : qm_clsP RX2 TX2 2 := ⟨tyX2, qm_allG (by decide +kernel), tyX2_ok, nmX2⟩
set_option maxRecDepth 100000 in
theorem qm_cl2 : qm_clsP RX3 TX3 10 := ⟨tyX3, qm_allG (by decide +kernel), tyX3_ok, nmX3⟩
set_option maxRecDepth 100000 in
theorem qm_cl3 : qm_clsP RX4 TX4 3 := ⟨tyX4, qm_allG (by decide +kernel), tyX4_ok, nmX4⟩
set_option maxRecDepth 100000 in
theorem qm_cl4 : qm_clsP RX5 TX5 3 := ⟨tyX5, qm_allG (by decide +kernel), tyX5_ok, nmX5⟩
set_option maxRecDepth 100000 in
theorem qm_cl5 : qm_clsP RX6 TX6 8 := ⟨tyX6, qm_allG (by decide +kernel), tyX6_ok, nmX6⟩
set_option maxRecDepth 100000 in
theorem qm_cl6 : qm_clsP RX7 TX7 9 := ⟨tyX7, qm_allG (by decide +kernel), tyX7_ok, nmX7⟩
set_option maxRecDepth 100000 in
theorem qm_cl7 : qm_clsP RX8 TX8 9 := ⟨tyX8, qm_allG (by decide +kernel), tyX8_ok, nmX8⟩
set_option maxRecDepth 100000 in
theorem qm_cl8 : qm_clsP RX9 TX9 39 := ⟨tyX9, qm_allG (by decide +kernel), tyX9_ok, nmX9⟩
theorem qm_cls {ci : Nat} {C : String} {T : u_T} {N : Nat} (h : vwCl[ci]? = some (C, T, N)) : qm_clsP C T N := by
  match ci, h with
  | 0, h => cases h; exact qm_cl0
  | 1, h => cases h; exact qm_cl1
  | 2, h => cases h; exact qm_cl2
  | 3, h => cases h; exact qm_cl3
  | 4, h => cases h; exact qm_cl4
  | 5, h => cases h; exact qm_cl5
  | 6, h => cases h; exact qm_cl6
  | 7, h => cases h; exact qm_cl7
  | 8, h => cases h; exact qm_cl8
  | k + 9, h => simp at h
def qm_peB (own : String) (idx : Nat) : qm_PE → Bool
  | .inl (ci, k, fl) => match vwCl[ci]? with
    | some (_, T, N) => decide (k < N) && qm_inG (.fieldLink own idx (T k).1 (T k).2.1 (T k).2.2.1) && (fl != 0 || (decide ((T k).2.2.1 = "I") && !(T k).2.2.2)) && (fl != 1 || (decide ((T k).2.2.1 = "Z") && !(T k).2.2.2))
    | none => false
  | .inr (.inl (stt, mj)) => qm_inG (.code mj.1 mj.2.1 mj.2.2.1 mj.2.2.2.1) && (qm_inG (.methodLink own idx mj.1) && (qm_inG (.initialized mj.1.cls) && (plainName mj.1.cls && ((decide (mj.1.cls ≠ "java/lang/invoke/MethodHandle") && decide (mj.1.cls ≠ "java/lang/invoke/VarHandle")) &&
      (decide ((parseMethodDescriptor mj.1.desc).map (fun d => d.parameters.length) = some mj.2.2.2.2.2) && (decide (mj.1.cls = qm_cnm mj.2.2.2.2.1) && (decide (mj.2.2.1 ≤ 40) &&
      (if stt then qm_inG (.static mj.1) else qm_inG (.instanceMethod mj.1) && (qm_inG (.selects mj.1.cls mj.1 mj.1) && (match vwCl[mj.2.2.2.2.1]? with
        | some (C, _, _) => decide (C = mj.1.cls)
        | none => false))))))))))
  | .inr (.inr (.inl v)) => qm_inG (.constant own idx v)
  | .inr (.inr (.inr (.inl v))) => qm_inG (.constantLong own idx v)
  | .inr (.inr (.inr (.inr 0))) => qm_inG (.methodLink own idx Lib.Math.min.name) && (qm_inG (.static Lib.Math.min.name) && (qm_inG (.initialized "java/lang/Math") && qm_inG (.code Lib.Math.min.name Lib.Math.min.code 2 (some .int))))
  | .inr (.inr (.inr (.inr 1))) => qm_inG (.methodLink own idx Lib.Math.max.name) && (qm_inG (.static Lib.Math.max.name) && (qm_inG (.initialized "java/lang/Math") && qm_inG (.code Lib.Math.max.name Lib.Math.max.code 2 (some .int))))
  | .inr (.inr (.inr (.inr 2))) => qm_inG (.methodLink own idx arraycopyName) && (qm_inG (.native arraycopyName) && (qm_inG (.static arraycopyName) && qm_inG (.initialized "java/lang/System")))
  | .inr (.inr (.inr (.inr 3))) => qm_inG (.methodLink own idx yJ0_length_8abf5) && (qm_inG (.instanceMethod yJ0_length_8abf5) && (qm_inG (.selects RJ0 yJ0_length_8abf5 yJ0_length_8abf5) && qm_inG (.code yJ0_length_8abf5 cJ0_length_8abf5 1 (some .int))))
  | .inr (.inr (.inr (.inr 4))) => qm_inG (.methodLink own idx yJ0_charAt_5068e) && (qm_inG (.instanceMethod yJ0_charAt_5068e) && (qm_inG (.selects RJ0 yJ0_charAt_5068e yJ0_charAt_5068e) && qm_inG (.code yJ0_charAt_5068e cJ0_charAt_5068e 2 (some .char))))
  | .inr (.inr (.inr (.inr (i + 10)))) => decide (i < 13) && (decide (own = qm_so i) && decide (idx = qm_si i))
  | .inr (.inr (.inr (.inr _))) => false
theorem qm_pI : parseFieldDescriptor "I" = some .int := by decide +kernel
theorem qm_pZ : parseFieldDescriptor "Z" = some .boolean := by decide +kernel
theorem qm_peB_ok {own : String} {idx : Nat} {pe : qm_PE} (h : qm_peB own idx pe = true) : qm_peOK qm_G qm_cnm own idx pe := by
  rcases pe with ⟨ci, k, fl⟩ | ⟨stt, mj⟩ | v | v | b
  · unfold qm_peB at h
    split at h
    · rename_i C T N hc
      simp only [Bool.and_eq_true, decide_eq_true_eq, Bool.or_eq_true, bne_iff_ne, ne_eq, Bool.not_eq_true'] at h
      obtain ⟨⟨⟨h1, h2⟩, h3⟩, h4⟩ := h
      obtain ⟨ty, g1, g2, g3⟩ := qm_cls hc
      refine ⟨C, T, N, ty, hc, h1, qm_inG_mem h2, g1, g2, g3, fun e => ?_, fun e => ?_⟩
      · obtain ⟨h5, h6⟩ := h3.resolve_left (fun z => z e)
        have := g2 k h1
        rw [h5, qm_pI] at this
        exact ⟨(Option.some.inj this).symm, h6⟩
      · obtain ⟨h5, h6⟩ := h4.resolve_left (fun z => z e)
        have := g2 k h1
        rw [h5, qm_pZ] at this
        exact ⟨(Option.some.inj this).symm, h6⟩
    · cases h
  · simp only [qm_peB, Bool.and_eq_true, decide_eq_true_eq] at h
    obtain ⟨h1, h2, h3, h4, ⟨h5, h6⟩, h7, h8, h9, h10⟩ := h
    refine ⟨qm_inG_mem h1, qm_inG_mem h2, qm_inG_mem h3, h4, ⟨h5, h6⟩, h7, h8, h9, fun e => ?_, fun e => ?_⟩
    · rw [if_pos e] at h10
      exact qm_inG_mem h10
    · rw [if_neg (by rw [e]; decide), Bool.and_eq_true, Bool.and_eq_true] at h10
      obtain ⟨a1, a2, a3⟩ := h10
      refine ⟨qm_inG_mem a1, qm_inG_mem a2, ?_⟩
      split at a3
      · rename_i C T N hc
        rw [← of_decide_eq_true a3]
        exact ⟨T, N, hc⟩
      · cases a3
  · exact qm_inG_mem h
  · exact qm_inG_mem h
  · match b, h with
    | 0, h =>
      simp only [qm_peB, Bool.and_eq_true] at h
      exact ⟨qm_inG_mem h.1, qm_inG_mem h.2.1, qm_inG_mem h.2.2.1, qm_inG_mem h.2.2.2⟩
    | 1, h =>
      simp only [qm_peB, Bool.and_eq_true] at h
      exact ⟨qm_inG_mem h.1, qm_inG_mem h.2.1, qm_inG_mem h.2.2.1, qm_inG_mem h.2.2.2⟩
    | 2, h =>
      simp only [qm_peB, Bool.and_eq_true] at h
      exact ⟨qm_inG_mem h.1, qm_inG_mem h.2.1, qm_inG_mem h.2.2.1, qm_inG_mem h.2.2.2⟩
    | 3, h =>
      simp only [qm_peB, Bool.and_eq_true] at h
      exact ⟨qm_inG_mem h.1, qm_inG_mem h.2.1, qm_inG_mem h.2.2.1, qm_inG_mem h.2.2.2⟩
    | 4, h =>
      simp only [qm_peB, Bool.and_eq_true] at h
      exact ⟨qm_inG_mem h.1, qm_inG_mem h.2.1, qm_inG_mem h.2.2.1, qm_inG_mem h.2.2.2⟩
    | 5, h => cases h
    | 6, h => cases h
    | 7, h => cases h
    | 8, h => cases h
    | 9, h => cases h
    | i + 10, h =>
      simp only [qm_peB, Bool.and_eq_true, decide_eq_true_eq] at h
      exact h
theorem qm_lookup_mem {l : List (Nat × qm_PE)} {i : Nat} {z : qm_PE} (h : l.lookup i = some z) : (i, z) ∈ l := by
  induction l with
  | nil => cases h
  | cons q l ih =>
    obtain ⟨k, y⟩ := q
    rw [List.lookup_cons] at h
    split at h
    · rename_i e
      have : i = k := by simpa using e
      cases h
      rw [this]; exact List.mem_cons_self
    · exact List.mem_cons_of_mem _ (ih h)
theorem qm_plOK {own : String} {l : List (Nat × qm_PE)} (h : l.all (fun q => qm_peB own q.1 q.2) = true) {i : Nat} {z : qm_PE} (hz : l.lookup i = some z) : qm_peOK qm_G qm_cnm own i z := qm_peB_ok (List.all_eq_true.mp h _ (qm_lookup_mem hz))
set_option maxRecDepth 100000 in
theorem qm_po0 : qm_pl0.all (fun q => qm_peB (qm_cnm 0) q.1 q.2) = true := by decide +kernel
set_option maxRecDepth 100000 in
theorem qm_po1 : qm_pl1.all (fun q => qm_peB (qm_cnm 1) q.1 q.2) = true := by decide +kernel
set_option maxRecDepth 100000 in
theorem qm_po2 : qm_pl2.all (fun q => qm_peB (qm_cnm 2) q.1 q.2) = true := by decide +kernel
set_option maxRecDepth 100000 in
theorem qm_po3 : qm_pl3.all (fun q => qm_peB (qm_cnm 3) q.1 q.2) = true := by decide +kernel
set_option maxRecDepth 100000 in
theorem qm_po4 : qm_pl4.all (fun q => qm_peB (qm_cnm 4) q.1 q.2) = true := by decide +kernel
set_option maxRecDepth 100000 in
theorem qm_po5 : qm_pl5.all (fun q => qm_peB (qm_cnm 5) q.1 q.2) = true := by decide +kernel
set_option maxRecDepth 100000 in
theorem qm_po6 : qm_pl6.all (fun q => qm_peB (qm_cnm 6) q.1 q.2) = true := by decide +kernel
set_option maxRecDepth 100000 in
theorem qm_po7 : qm_pl7.all (fun q => qm_peB (qm_cnm 7) q.1 q.2) = true := by decide +kernel
set_option maxRecDepth 100000 in
theorem qm_po8 : qm_pl8.all (fun q => qm_peB (qm_cnm 8) q.1 q.2) = true := by decide +kernel
set_option maxRecDepth 100000 in
theorem qm_po9 : qm_pl9.all (fun q => qm_peB (qm_cnm 9) q.1 q.2) = true := by decide +kernel
set_option maxRecDepth 100000 in
theorem qm_po10 : qm_pl10.all (fun q => qm_peB (qm_cnm 10) q.1 q.2) = true := by decide +kernel
set_option maxRecDepth 100000 in
theorem qm_po11 : qm_pl11.all (fun q => qm_peB (qm_cnm 11) q.1 q.2) = true := by decide +kernel
theorem qm_pool_ok : qm_poolOK qm_pool qm_G qm_cnm := by
  intro oc i z h
  match oc, h with
  | 0, h => exact qm_plOK qm_po0 h
  | 1, h => exact qm_plOK qm_po1 h
  | 2, h => exact qm_plOK qm_po2 h
  | 3, h => exact qm_plOK qm_po3 h
  | 4, h => exact qm_plOK qm_po4 h
  | 5, h => exact qm_plOK qm_po5 h
  | 6, h => exact qm_plOK qm_po6 h
  | 7, h => exact qm_plOK qm_po7 h
  | 8, h => exact qm_plOK qm_po8 h
  | 9, h => exact qm_plOK qm_po9 h
  | 10, h => exact qm_plOK qm_po10 h
  | 11, h => exact qm_plOK qm_po11 h
  | k + 12, h => cases h
def qm_oI : List (Nat × Nat) := [(0, 3), (0, 4), (0, 5), (0, 6), (0, 7), (0, 8), (0, 9), (4, 0), (4, 1), (22, 0), (22, 1), (22, 2), (22, 3), (28, 0), (28, 1), (28, 2), (28, 3), (34, 0), (34, 1), (34, 2), (34, 3), (48, 1), (50, 0), (50, 1), (50, 2), (51, 2), (54, 3), (55, 0), (55, 6), (55, 8), (55, 11), (55, 12), (55, 13), (55, 14), (55, 15), (55, 16), (55, 22), (55, 23), (55, 24), (55, 25), (55, 28), (55, 29), (55, 30), (55, 34), (55, 36), (55, 38)]
def qm_oF : List Nat := [1, 2, 3, 5, 6, 7, 10, 11, 12, 13, 14, 15, 16, 17, 18, 19, 20, 21, 23, 24, 25, 26, 27, 29, 30, 31, 32, 33, 35, 36, 37, 38, 39, 42, 43, 44, 45, 46, 47, 49, 52, 53, 56, 57, 58, 59, 60, 61, 62, 63, 64, 65, 66, 67, 68, 69, 70, 71, 72, 73, 74, 75]
def qm_chkL (lay : List qm_LE) : Bool := (List.range lay.length).all fun a => match lay[a]? with
  | some (.inl (_, fs)) => (List.range fs.length).all fun i => match fs[i]? with
    | some (.inl s) => decide (qm_oI[s]? = some (a, i))
    | _ => true
  | some (.inr (.inl (_, j))) => decide (qm_oF[j]? = some a)
  | _ => true
theorem qm_wf_of {lay : List qm_LE} (h : qm_chkL lay = true) : qm_wf lay := by
  have hI : ∀ (a ci : Nat) (fs : List (Nat ⊕ Nat)) (i s : Nat), lay[a]? = some (.inl (ci, fs)) → fs[i]? = some (.inl s) → qm_oI[s]? = some (a, i) := by
    intro a ci fs i s ha hi
    have h1 := List.all_eq_true.mp h a (List.mem_range.mpr (List.getElem?_eq_some_iff.mp ha).1)
    rw [ha] at h1
    have h2 := List.all_eq_true.mp h1 i (List.mem_range.mpr (List.getElem?_eq_some_iff.mp hi).1)
    rw [hi] at h2
    exact of_decide_eq_true h2
  have hF : ∀ a n j : Nat, lay[a]? = some (.inr (.inl (n, j))) → qm_oF[j]? = some a := by
    intro a n j ha
    have h1 := List.all_eq_true.mp h a (List.mem_range.mpr (List.getElem?_eq_some_iff.mp ha).1)
    rw [ha] at h1
    exact of_decide_eq_true h1
  refine ⟨fun a b ci cj fs gs i j s ha hb hi hj => ?_, fun a b n m j ha hb => ?_⟩
  · have := (hI a ci fs i s ha hi).symm.trans (hI b cj gs j s hb hj)
    cases this
    exact ⟨rfl, rfl⟩
  · exact Option.some.inj ((hF a n j ha).symm.trans (hF b m j hb))
set_option maxRecDepth 100000 in
theorem qm_wf_lay : qm_wf qm_lay := qm_wf_of (by decide +kernel)
set_option maxRecDepth 100000 in
theorem qm_wf_layT : qm_wf qm_layT := qm_wf_of (by decide +kernel)
/-- a whole call of the pure machine is one of the real one -/
theorem qm_Met {d : Nat} {mi : qm_MI} {as : List Value} {σ τ : qm_St} {v : Option Value} {lay : List qm_LE} (hw : qm_wf lay) (h : Ok lay d mi as σ v τ) (hm : qm_mok qm_G qm_cnm mi) (l : Launch) (α : Nat → Nat) (cA cR : ClassId) (D : va_G) (sz : Nat) :
    Met l mi.1 (qm_ws qm_G mi) (qm_rm (d + 5)) (va_Pc (as.map (qm_rl α)) (qm_B α cA cR lay D sz σ)) (qm_Qc α cA cR lay D (va_A (qm_W α cA cR lay σ) sz) v τ) 0 0 (va_A (qm_W α cA cR lay σ) sz) := by
  obtain ⟨h1, n, h2⟩ := h
  exact qm_Met_of (qm_walk qm_jwG hw qm_pool_ok qm_G_good n) h2 hm h1 l α cA cR D sz
