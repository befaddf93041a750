/-! ===== one instruction of the pure machine is one of the real one ===== -/
abbrev qm_ty (cA cR : ClassId) : List (ClassId × FieldType) := [(cA, .int), (cR, .array .int)]
/-- what the tables must say of a place of a pool -/
def qm_peOK (G : List Cond) (cnm : Nat → String) (own : String) (idx : Nat) : qm_PE → Prop
  | .inl (ci, k, fl) => ∃ (C : String) (T : u_T) (N : Nat) (ty : Nat → FieldType), vwCl[ci]? = some (C, T, N) ∧ k < N ∧ Cond.fieldLink own idx (T k).1 (T k).2.1 (T k).2.2.1 ∈ G ∧ (∀ w ∈ u_ws C T N, w ∈ G) ∧
      (∀ j, j < N → parseFieldDescriptor (T j).2.2.1 = some (ty j)) ∧ (∀ a, a < N → ∀ b, b < N → a ≠ b → (T a).2.1 ≠ (T b).2.1) ∧ (fl = 0 → ty k = .int ∧ (T k).2.2.2 = false) ∧ (fl = 1 → ty k = .boolean ∧ (T k).2.2.2 = false)
  | .inr (.inl (stt, mj)) => Cond.code mj.1 mj.2.1 mj.2.2.1 mj.2.2.2.1 ∈ G ∧ Cond.methodLink own idx mj.1 ∈ G ∧ Cond.initialized mj.1.cls ∈ G ∧ plainName mj.1.cls = true ∧ (mj.1.cls ≠ "java/lang/invoke/MethodHandle" ∧ mj.1.cls ≠ "java/lang/invoke/VarHandle") ∧
      (parseMethodDescriptor mj.1.desc).map (fun d => d.parameters.length) = some mj.2.2.2.2.2 ∧ mj.1.cls = cnm mj.2.2.2.2.1 ∧ mj.2.2.1 ≤ 40 ∧
      (stt = true → Cond.static mj.1 ∈ G) ∧ (stt = false → Cond.instanceMethod mj.1 ∈ G ∧ Cond.selects mj.1.cls mj.1 mj.1 ∈ G ∧ ∃ (T : u_T) (N : Nat), vwCl[mj.2.2.2.2.1]? = some (mj.1.cls, T, N))
  | .inr (.inr (.inl v)) => Cond.constant own idx v ∈ G
  | .inr (.inr (.inr (.inl v))) => Cond.constantLong own idx v ∈ G
  | .inr (.inr (.inr (.inr 0))) => Cond.methodLink own idx Lib.Math.min.name ∈ G ∧ Cond.static Lib.Math.min.name ∈ G ∧ Cond.initialized "java/lang/Math" ∈ G ∧ Cond.code Lib.Math.min.name Lib.Math.min.code 2 (some .int) ∈ G
  | .inr (.inr (.inr (.inr 1))) => Cond.methodLink own idx Lib.Math.max.name ∈ G ∧ Cond.static Lib.Math.max.name ∈ G ∧ Cond.initialized "java/lang/Math" ∈ G ∧ Cond.code Lib.Math.max.name Lib.Math.max.code 2 (some .int) ∈ G
  | .inr (.inr (.inr (.inr 2))) => Cond.methodLink own idx arraycopyName ∈ G ∧ Cond.native arraycopyName ∈ G ∧ Cond.static arraycopyName ∈ G ∧ Cond.initialized "java/lang/System" ∈ G
  | .inr (.inr (.inr (.inr 3))) => Cond.methodLink own idx yJ0_length_8abf5 ∈ G ∧ Cond.instanceMethod yJ0_length_8abf5 ∈ G ∧ Cond.selects RJ0 yJ0_length_8abf5 yJ0_length_8abf5 ∈ G ∧ Cond.code yJ0_length_8abf5 cJ0_length_8abf5 1 (some .int) ∈ G
  | .inr (.inr (.inr (.inr 4))) => Cond.methodLink own idx yJ0_charAt_5068e ∈ G ∧ Cond.instanceMethod yJ0_charAt_5068e ∈ G ∧ Cond.selects RJ0 yJ0_charAt_5068e yJ0_charAt_5068e ∈ G ∧ Cond.code yJ0_charAt_5068e cJ0_charAt_5068e 2 (some .char) ∈ G
  | .inr (.inr (.inr (.inr (i + 10)))) => i < 13 ∧ own = qm_so i ∧ idx = qm_si i
  | .inr (.inr (.inr (.inr _))) => False
section QMS
variable {p : Program} {l : Launch} {e : Env} {R : Room} {s : State} {m : MethodId} {args : Array Value} {below : List Frame} {meth : Method} {c : Code} {H : Heap} {locs : List Loc} {cells slots : Nat} {Q : State → Prop}
variable {cc : ByteArray} {D : va_G} {A : Nat → Prop} {α : Nat → Nat} {cA cR : ClassId} {lay : List qm_LE} {H0 : Heap} {GG : List Cond}
/-- the road goes on from any state that the answer r describes -/
def qm_go (p : Program) (l : Launch) (e : Env) (R : Room) (s : State) (m : MethodId) (args : Array Value) (below : List Frame) (meth : Method) (c : Code) (cells slots : Nat) (Q : State → Prop) (D : va_G) (A : Nat → Prop) (α : Nat → Nat) (cA cR : ClassId) (lay : List qm_LE) (H0 : Heap) (nL : Nat) (r : qm_Re) : Prop :=
  ∀ (H1 : Heap) (locs1 : List Loc) (LS1 : Array Slot), va_P D vwCl (qm_W α cA cR lay r.2.2.2) H1 → va_D A (qm_W α cA cR lay r.2.2.2) → va_S A H0 H1 locs1 → qm_lok α LS1 nL r.2.1 → W p l e R s m args below meth c H1 locs1 cells slots Q (F0 m r.1 LS1 (r.2.2.1.map (qm_rl α)))
theorem qm_jmpW {pc nL : Nat} {off : Int} {ls : qm_LS} {st : List Value} {σ : qm_St} {r : qm_Re} {LS : Array Slot} (h : qm_jmp pc off ls st σ = some r) (k : qm_go p l e R s m args below meth c cells slots Q D A α cA cR lay H0 nL r)
    (hP : va_P D vwCl (qm_W α cA cR lay σ) H) (hD : va_D A (qm_W α cA cR lay σ)) (hS : va_S A H0 H locs) (hl : qm_lok α LS nL ls) :
    ∃ t : Nat, (pc : Int) + off = (t : Int) ∧ W p l e R s m args below meth c H locs cells slots Q (F0 m t LS (st.map (qm_rl α))) := by
  obtain ⟨t, h1, rfl⟩ := qm_jmp_inv h
  exact ⟨t, h1, k H locs LS hP hD hS hl⟩
theorem qm_ifW (hx : p.tables.exec = Jvm.exec) (hb : c.code = cc) {pc nL : Nat} {cd : ClassFile.Cond} {off : Int} {ls : qm_LS} {st : List Value} {σ : qm_St} {r : qm_Re} {LS : Array Slot} (hd : decode cc pc = .ok (.ifCond cd off, 3)) (h : qm_if cd off pc ls st σ = some r) (k : qm_go p l e R s m args below meth c cells slots Q D A α cA cR lay H0 nL r)
    (hP : va_P D vwCl (qm_W α cA cR lay σ) H) (hD : va_D A (qm_W α cA cR lay σ)) (hS : va_S A H0 H locs) (hl : qm_lok α LS nL ls) :
    W p l e R s m args below meth c H locs cells slots Q (F0 m pc LS (st.map (qm_rl α))) := by
  unfold qm_if at h
  split at h
  · rename_i x t
    split at h
    · rename_i hg
      cases h
      have k' := k H locs LS hP hD hS hl
      dsimp only at k'
      have ht : (pc : Int) + off = ((((pc : Int) + off).toNat : Nat) : Int) := (Int.toNat_of_nonneg hg).symm
      have kt : qm_c1 cd x = true → W p l e R s m args below meth c H locs cells slots Q (F0 m (((pc : Int) + off).toNat) LS (t.map (qm_rl α))) := fun g => by
        rw [if_pos g] at k'
        exact k'
      have kf : ¬ qm_c1 cd x = true → W p l e R s m args below meth c H locs cells slots Q (F0 m (pc + 3) LS (t.map (qm_rl α))) := fun g => by
        rw [if_neg g] at k'
        exact k'
      show W p l e R s m args below meth c H locs cells slots Q (F0 m pc LS (.int x :: t.map (qm_rl α)))
      cases cd with
      | eq => exact lv_if_eq hx hb hd ht (fun z => kt (decide_eq_true z)) (fun z => kf (fun y => z (of_decide_eq_true y)))
      | ne => exact lv_if_ne hx hb hd ht (fun z => kt (decide_eq_true z)) (fun z => kf (fun y => of_decide_eq_true y z))
      | lt => exact lv_if_lt hx hb hd ht (fun z => kt (decide_eq_true z)) (fun z => kf (fun y => z (of_decide_eq_true y)))
      | ge => exact lv_if_ge hx hb hd ht (fun z => kt (decide_eq_true z)) (fun z => kf (fun y => z (of_decide_eq_true y)))
      | gt => exact lv_if_gt hx hb hd ht (fun z => kt (decide_eq_true z)) (fun z => kf (fun y => z (of_decide_eq_true y)))
      | le => exact lv_if_le hx hb hd ht (fun z => kt (decide_eq_true z)) (fun z => kf (fun y => z (of_decide_eq_true y)))
    · cases h
  · cases h
theorem qm_if2W (hx : p.tables.exec = Jvm.exec) (hb : c.code = cc) {pc nL : Nat} {cd : ClassFile.Cond} {off : Int} {ls : qm_LS} {st : List Value} {σ : qm_St} {r : qm_Re} {LS : Array Slot} (hd : decode cc pc = .ok (.if_icmp cd off, 3)) (h : qm_if2 cd off pc ls st σ = some r) (k : qm_go p l e R s m args below meth c cells slots Q D A α cA cR lay H0 nL r)
    (hP : va_P D vwCl (qm_W α cA cR lay σ) H) (hD : va_D A (qm_W α cA cR lay σ)) (hS : va_S A H0 H locs) (hl : qm_lok α LS nL ls) :
    W p l e R s m args below meth c H locs cells slots Q (F0 m pc LS (st.map (qm_rl α))) := by
  unfold qm_if2 at h
  split at h
  · rename_i y x t
    split at h
    · rename_i hg
      cases h
      have k' := k H locs LS hP hD hS hl
      dsimp only at k'
      have ht : (pc : Int) + off = ((((pc : Int) + off).toNat : Nat) : Int) := (Int.toNat_of_nonneg hg).symm
      have kt : qm_c2 cd x y = true → W p l e R s m args below meth c H locs cells slots Q (F0 m (((pc : Int) + off).toNat) LS (t.map (qm_rl α))) := fun g => by
        rw [if_pos g] at k'
        exact k'
      have kf : ¬ qm_c2 cd x y = true → W p l e R s m args below meth c H locs cells slots Q (F0 m (pc + 3) LS (t.map (qm_rl α))) := fun g => by
        rw [if_neg g] at k'
        exact k'
      show W p l e R s m args below meth c H locs cells slots Q (F0 m pc LS (.int y :: .int x :: t.map (qm_rl α)))
      cases cd with
      | eq => exact lv_icmp_eq hx hb hd ht (fun z => kt (decide_eq_true z)) (fun z => kf (fun y => z (of_decide_eq_true y)))
      | ne => exact lv_icmp_ne hx hb hd ht (fun z => kt (decide_eq_true z)) (fun z => kf (fun y => of_decide_eq_true y z))
      | lt => exact lv_icmp_lt hx hb hd ht (fun z => kt (decide_eq_true z)) (fun z => kf (fun y => z (of_decide_eq_true y)))
      | ge => exact lv_icmp_ge hx hb hd ht (fun z => kt (decide_eq_true z)) (fun z => kf (fun y => z (of_decide_eq_true y)))
      | gt => exact lv_icmp_gt hx hb hd ht (fun z => kt (decide_eq_true z)) (fun z => kf (fun y => z (of_decide_eq_true y)))
      | le => exact lv_icmp_le hx hb hd ht (fun z => kt (decide_eq_true z)) (fun z => kf (fun y => z (of_decide_eq_true y)))
    · cases h
  · cases h
theorem qm_bW (hx : p.tables.exec = Jvm.exec) (hb : c.code = cc) {pc nL : Nat} {ls : qm_LS} {st : List Value} {σ : qm_St} {r : qm_Re} {LS : Array Slot} {f : Int32 → Int32 → Int32} (rule : ∀ {x y : Int32} {t : List Value}, W p l e R s m args below meth c H locs cells slots Q (F0 m (pc + 1) LS (.int (f x y) :: t)) → W p l e R s m args below meth c H locs cells slots Q (F0 m pc LS (.int y :: .int x :: t))) (h : qm_b f (pc + 1) ls st σ = some r) (k : qm_go p l e R s m args below meth c cells slots Q D A α cA cR lay H0 nL r)
    (hP : va_P D vwCl (qm_W α cA cR lay σ) H) (hD : va_D A (qm_W α cA cR lay σ)) (hS : va_S A H0 H locs) (hl : qm_lok α LS nL ls) :
    W p l e R s m args below meth c H locs cells slots Q (F0 m pc LS (st.map (qm_rl α))) := by
  obtain ⟨x, y, t, rfl, rfl⟩ := qm_b_inv h
  exact rule (k H locs LS hP hD hS hl)
theorem qm_bdW (hx : p.tables.exec = Jvm.exec) (hb : c.code = cc) {pc nL : Nat} {ls : qm_LS} {st : List Value} {σ : qm_St} {r : qm_Re} {LS : Array Slot} {f : Int32 → Int32 → Int32} (rule : ∀ {x y : Int32} {t : List Value}, ¬ y = 0 → W p l e R s m args below meth c H locs cells slots Q (F0 m (pc + 1) LS (.int (f x y) :: t)) → W p l e R s m args below meth c H locs cells slots Q (F0 m pc LS (.int y :: .int x :: t))) (h : qm_bd f (pc + 1) ls st σ = some r) (k : qm_go p l e R s m args below meth c cells slots Q D A α cA cR lay H0 nL r)
    (hP : va_P D vwCl (qm_W α cA cR lay σ) H) (hD : va_D A (qm_W α cA cR lay σ)) (hS : va_S A H0 H locs) (hl : qm_lok α LS nL ls) :
    W p l e R s m args below meth c H locs cells slots Q (F0 m pc LS (st.map (qm_rl α))) := by
  obtain ⟨x, y, t, rfl, hy, rfl⟩ := qm_bd_inv h
  exact rule hy (k H locs LS hP hD hS hl)
theorem qm_uW (hx : p.tables.exec = Jvm.exec) (hb : c.code = cc) {pc nL : Nat} {ls : qm_LS} {st : List Value} {σ : qm_St} {r : qm_Re} {LS : Array Slot} {f : Int32 → Int32} (rule : ∀ {x : Int32} {t : List Value}, W p l e R s m args below meth c H locs cells slots Q (F0 m (pc + 1) LS (.int (f x) :: t)) → W p l e R s m args below meth c H locs cells slots Q (F0 m pc LS (.int x :: t))) (h : qm_u f (pc + 1) ls st σ = some r) (k : qm_go p l e R s m args below meth c cells slots Q D A α cA cR lay H0 nL r)
    (hP : va_P D vwCl (qm_W α cA cR lay σ) H) (hD : va_D A (qm_W α cA cR lay σ)) (hS : va_S A H0 H locs) (hl : qm_lok α LS nL ls) :
    W p l e R s m args below meth c H locs cells slots Q (F0 m pc LS (st.map (qm_rl α))) := by
  obtain ⟨x, t, rfl, rfl⟩ := qm_u_inv h
  exact rule (k H locs LS hP hD hS hl)
theorem qm_lbW (hx : p.tables.exec = Jvm.exec) (hb : c.code = cc) {pc nL : Nat} {ls : qm_LS} {st : List Value} {σ : qm_St} {r : qm_Re} {LS : Array Slot} {f : Int64 → Int64 → Int64} (rule : ∀ {x y : Int64} {t : List Value}, W p l e R s m args below meth c H locs cells slots Q (F0 m (pc + 1) LS (.long (f x y) :: t)) → W p l e R s m args below meth c H locs cells slots Q (F0 m pc LS (.long y :: .long x :: t))) (h : qm_lb f (pc + 1) ls st σ = some r) (k : qm_go p l e R s m args below meth c cells slots Q D A α cA cR lay H0 nL r)
    (hP : va_P D vwCl (qm_W α cA cR lay σ) H) (hD : va_D A (qm_W α cA cR lay σ)) (hS : va_S A H0 H locs) (hl : qm_lok α LS nL ls) :
    W p l e R s m args below meth c H locs cells slots Q (F0 m pc LS (st.map (qm_rl α))) := by
  obtain ⟨x, y, t, rfl, rfl⟩ := qm_lb_inv h
  exact rule (k H locs LS hP hD hS hl)
theorem qm_lbdW (hx : p.tables.exec = Jvm.exec) (hb : c.code = cc) {pc nL : Nat} {ls : qm_LS} {st : List Value} {σ : qm_St} {r : qm_Re} {LS : Array Slot} {f : Int64 → Int64 → Int64} (rule : ∀ {x y : Int64} {t : List Value}, ¬ y = 0 → W p l e R s m args below meth c H locs cells slots Q (F0 m (pc + 1) LS (.long (f x y) :: t)) → W p l e R s m args below meth c H locs cells slots Q (F0 m pc LS (.long y :: .long x :: t))) (h : qm_lbd f (pc + 1) ls st σ = some r) (k : qm_go p l e R s m args below meth c cells slots Q D A α cA cR lay H0 nL r)
    (hP : va_P D vwCl (qm_W α cA cR lay σ) H) (hD : va_D A (qm_W α cA cR lay σ)) (hS : va_S A H0 H locs) (hl : qm_lok α LS nL ls) :
    W p l e R s m args below meth c H locs cells slots Q (F0 m pc LS (st.map (qm_rl α))) := by
  obtain ⟨x, y, t, rfl, hy, rfl⟩ := qm_lbd_inv h
  exact rule hy (k H locs LS hP hD hS hl)
theorem qm_iLW (hx : p.tables.exec = Jvm.exec) (hb : c.code = cc) {pc nL : Nat} {ls : qm_LS} {st : List Value} {σ : qm_St} {r : qm_Re} {LS : Array Slot} {i q : Nat} (rule : ∀ {x : Int32} {t : List Value}, LS[i]? = some (.val (.int x)) → W p l e R s m args below meth c H locs cells slots Q (F0 m q LS (.int x :: t)) → W p l e R s m args below meth c H locs cells slots Q (F0 m pc LS t)) (h : qm_iL i q ls st σ = some r) (k : qm_go p l e R s m args below meth c cells slots Q D A α cA cR lay H0 nL r)
    (hP : va_P D vwCl (qm_W α cA cR lay σ) H) (hD : va_D A (qm_W α cA cR lay σ)) (hS : va_S A H0 H locs) (hl : qm_lok α LS nL ls) :
    W p l e R s m args below meth c H locs cells slots Q (F0 m pc LS (st.map (qm_rl α))) := by
  obtain ⟨x, h1, rfl⟩ := qm_iL_inv h
  exact rule (hl.2.2.2 _ _ h1) (k H locs LS hP hD hS hl)
theorem qm_lLW (hx : p.tables.exec = Jvm.exec) (hb : c.code = cc) {pc nL : Nat} {ls : qm_LS} {st : List Value} {σ : qm_St} {r : qm_Re} {LS : Array Slot} {i q : Nat} (rule : ∀ {x : Int64} {t : List Value}, LS[i]? = some (.val (.long x)) → W p l e R s m args below meth c H locs cells slots Q (F0 m q LS (.long x :: t)) → W p l e R s m args below meth c H locs cells slots Q (F0 m pc LS t)) (h : qm_lL i q ls st σ = some r) (k : qm_go p l e R s m args below meth c cells slots Q D A α cA cR lay H0 nL r)
    (hP : va_P D vwCl (qm_W α cA cR lay σ) H) (hD : va_D A (qm_W α cA cR lay σ)) (hS : va_S A H0 H locs) (hl : qm_lok α LS nL ls) :
    W p l e R s m args below meth c H locs cells slots Q (F0 m pc LS (st.map (qm_rl α))) := by
  obtain ⟨x, h1, rfl⟩ := qm_lL_inv h
  exact rule (hl.2.2.2 _ _ h1) (k H locs LS hP hD hS hl)
theorem qm_aLW (hx : p.tables.exec = Jvm.exec) (hb : c.code = cc) {pc nL : Nat} {ls : qm_LS} {st : List Value} {σ : qm_St} {r : qm_Re} {LS : Array Slot} {i q : Nat} (rule : ∀ {x : Nat} {t : List Value}, LS[i]? = some (.val (.ref x)) → W p l e R s m args below meth c H locs cells slots Q (F0 m q LS (.ref x :: t)) → W p l e R s m args below meth c H locs cells slots Q (F0 m pc LS t)) (h : qm_aL i q ls st σ = some r) (k : qm_go p l e R s m args below meth c cells slots Q D A α cA cR lay H0 nL r)
    (hP : va_P D vwCl (qm_W α cA cR lay σ) H) (hD : va_D A (qm_W α cA cR lay σ)) (hS : va_S A H0 H locs) (hl : qm_lok α LS nL ls) :
    W p l e R s m args below meth c H locs cells slots Q (F0 m pc LS (st.map (qm_rl α))) := by
  obtain ⟨x, h1, rfl⟩ := qm_aL_inv h
  exact rule (hl.2.2.2 _ _ h1) (k H locs LS hP hD hS hl)
theorem qm_iSW (hx : p.tables.exec = Jvm.exec) (hb : c.code = cc) {pc nL : Nat} {ls : qm_LS} {st : List Value} {σ : qm_St} {r : qm_Re} {LS : Array Slot} {i q : Nat} (rule : ∀ {x : Int32} {t : List Value} {lv lv' : List (Nat × Value)}, lv_has LS nL lv → i < nL → (i, Value.int x) :: lv.filter (fun q => !(q.1 == i) && !(q.1 + 1 == i && q.2.category == 2)) = lv' → (∀ ls' : Array Slot, lv_has ls' nL lv' → W p l e R s m args below meth c H locs cells slots Q (F0 m q ls' t)) → W p l e R s m args below meth c H locs cells slots Q (F0 m pc LS (.int x :: t))) (h : qm_iS i q ls st σ = some r) (k : qm_go p l e R s m args below meth c cells slots Q D A α cA cR lay H0 nL r)
    (hP : va_P D vwCl (qm_W α cA cR lay σ) H) (hD : va_D A (qm_W α cA cR lay σ)) (hS : va_S A H0 H locs) (hl : qm_lok α LS nL ls) :
    W p l e R s m args below meth c H locs cells slots Q (F0 m pc LS (st.map (qm_rl α))) := by
  obtain ⟨x, t, rfl, hi, hf, rfl⟩ := qm_iS_inv h
  exact rule hl.has (by rw [← hl.2.1]; exact hi) rfl (fun LS1 h1 => k H locs LS1 hP hD hS (hl.set1 hf hi h1))
theorem qm_aSW (hx : p.tables.exec = Jvm.exec) (hb : c.code = cc) {pc nL : Nat} {ls : qm_LS} {st : List Value} {σ : qm_St} {r : qm_Re} {LS : Array Slot} {i q : Nat} (rule : ∀ {x : Nat} {t : List Value} {lv lv' : List (Nat × Value)}, lv_has LS nL lv → i < nL → (i, Value.ref x) :: lv.filter (fun q => !(q.1 == i) && !(q.1 + 1 == i && q.2.category == 2)) = lv' → (∀ ls' : Array Slot, lv_has ls' nL lv' → W p l e R s m args below meth c H locs cells slots Q (F0 m q ls' t)) → W p l e R s m args below meth c H locs cells slots Q (F0 m pc LS (.ref x :: t))) (h : qm_aS i q ls st σ = some r) (k : qm_go p l e R s m args below meth c cells slots Q D A α cA cR lay H0 nL r)
    (hP : va_P D vwCl (qm_W α cA cR lay σ) H) (hD : va_D A (qm_W α cA cR lay σ)) (hS : va_S A H0 H locs) (hl : qm_lok α LS nL ls) :
    W p l e R s m args below meth c H locs cells slots Q (F0 m pc LS (st.map (qm_rl α))) := by
  obtain ⟨x, t, rfl, hi, hf, rfl⟩ := qm_aS_inv h
  exact rule hl.has (by rw [← hl.2.1]; exact hi) rfl (fun LS1 h1 => k H locs LS1 hP hD hS (hl.set1 hf hi h1))
theorem qm_lSW (hx : p.tables.exec = Jvm.exec) (hb : c.code = cc) {pc nL : Nat} {ls : qm_LS} {st : List Value} {σ : qm_St} {r : qm_Re} {LS : Array Slot} {i q : Nat} (rule : ∀ {x : Int64} {t : List Value} {lv lv' : List (Nat × Value)}, lv_has LS nL lv → i + 1 < nL → (i, Value.long x) :: lv.filter (fun q => !(q.1 == i) && (!(q.1 == i + 1) && !(q.1 + 1 == i && q.2.category == 2))) = lv' → (∀ ls' : Array Slot, lv_has ls' nL lv' → W p l e R s m args below meth c H locs cells slots Q (F0 m q ls' t)) → W p l e R s m args below meth c H locs cells slots Q (F0 m pc LS (.long x :: t))) (h : qm_lS i q ls st σ = some r) (k : qm_go p l e R s m args below meth c cells slots Q D A α cA cR lay H0 nL r)
    (hP : va_P D vwCl (qm_W α cA cR lay σ) H) (hD : va_D A (qm_W α cA cR lay σ)) (hS : va_S A H0 H locs) (hl : qm_lok α LS nL ls) :
    W p l e R s m args below meth c H locs cells slots Q (F0 m pc LS (st.map (qm_rl α))) := by
  obtain ⟨x, t, rfl, hi, hf, rfl⟩ := qm_lS_inv h
  exact rule hl.has (by rw [← hl.2.1]; exact hi) rfl (fun LS1 h1 => k H locs LS1 hP hD hS (hl.set2 hf hi h1))
theorem qm_incW (hx : p.tables.exec = Jvm.exec) (hb : c.code = cc) {pc nL : Nat} {ls : qm_LS} {st : List Value} {σ : qm_St} {r : qm_Re} {LS : Array Slot} {i : Nat} {n : Int} (hd : decode cc pc = .ok (.iinc i n, 3)) (h : qm_inc i n (pc + 3) ls st σ = some r) (k : qm_go p l e R s m args below meth c cells slots Q D A α cA cR lay H0 nL r)
    (hP : va_P D vwCl (qm_W α cA cR lay σ) H) (hD : va_D A (qm_W α cA cR lay σ)) (hS : va_S A H0 H locs) (hl : qm_lok α LS nL ls) :
    W p l e R s m args below meth c H locs cells slots Q (F0 m pc LS (st.map (qm_rl α))) := by
  obtain ⟨x, h1, hf, rfl⟩ := qm_inc_inv h
  have hi : i < ls.length := (List.getElem?_eq_some_iff.mp h1).1
  obtain ⟨kk, hk⟩ := List.getElem?_of_mem (qm_al_mem (α := α) (q := (i, .int x)) |>.mpr ⟨.int x, h1, rfl⟩)
  exact lv_iinc hx hb hd hl.has hk rfl (by rw [← hl.2.1]; exact hi) rfl (fun LS1 h2 => k H locs LS1 hP hD hS (hl.set1 hf hi h2))
theorem qm_tswW (hx : p.tables.exec = Jvm.exec) (hb : c.code = cc) {pc nL : Nat} {ls : qm_LS} {st : List Value} {σ : qm_St} {r : qm_Re} {LS : Array Slot} {dflt lo hi : Int} {offs : Array Int} {len : Nat} (hd : decode cc pc = .ok (.tableswitch dflt lo hi offs, len)) (h : qm_tsw dflt lo hi offs pc ls st σ = some r) (k : qm_go p l e R s m args below meth c cells slots Q D A α cA cR lay H0 nL r)
    (hP : va_P D vwCl (qm_W α cA cR lay σ) H) (hD : va_D A (qm_W α cA cR lay σ)) (hS : va_S A H0 H locs) (hl : qm_lok α LS nL ls) :
    W p l e R s m args below meth c H locs cells slots Q (F0 m pc LS (st.map (qm_rl α))) := by
  unfold qm_tsw at h
  split at h
  · rename_i x t
    split at h
    · rename_i g
      obtain ⟨tt, ht, kw⟩ := qm_jmpW h k hP hD hS hl
      exact lv_tableOut hx hb hd g ht kw
    · rename_i g
      split at h
      · rename_i off ho
        obtain ⟨tt, ht, kw⟩ := qm_jmpW h k hP hD hS hl
        exact lv_tableIn hx hb hd (fun z => g (Or.inl z)) (fun z => g (Or.inr z)) ho ht kw
      · cases h
  · cases h
theorem qm_lswW (hx : p.tables.exec = Jvm.exec) (hb : c.code = cc) {pc nL : Nat} {ls : qm_LS} {st : List Value} {σ : qm_St} {r : qm_Re} {LS : Array Slot} {dflt : Int} {ps : Array (Int × Int)} {len : Nat} (hd : decode cc pc = .ok (.lookupswitch dflt ps, len)) (h : qm_lsw dflt ps pc ls st σ = some r) (k : qm_go p l e R s m args below meth c cells slots Q D A α cA cR lay H0 nL r)
    (hP : va_P D vwCl (qm_W α cA cR lay σ) H) (hD : va_D A (qm_W α cA cR lay σ)) (hS : va_S A H0 H locs) (hl : qm_lok α LS nL ls) :
    W p l e R s m args below meth c H locs cells slots Q (F0 m pc LS (st.map (qm_rl α))) := by
  unfold qm_lsw at h
  split at h
  · rename_i x t
    split at h
    · rename_i g
      obtain ⟨tt, ht, kw⟩ := qm_jmpW h k hP hD hS hl
      exact lv_lookup hx hb hd g rfl ht kw
    · cases h
  · cases h
theorem qm_getW (hx : p.tables.exec = Jvm.exec) (hb : c.code = cc) {pc nL : Nat} {ls : qm_LS} {st : List Value} {σ : qm_St} {r : qm_Re} {LS : Array Slot} {G : List Cond} {cnm : Nat → String} {own : String} {i : Nat} {pe : Option qm_PE} (hts : ∀ w ∈ G, w.before args s = true) (hown : s.vm.findClass own = some m.cls) (hK : va_K D vwCl (qm_ty cA cR) s) (hpe : ∀ z, pe = some z → qm_peOK G cnm own i z) (hd : decode cc pc = .ok (.getfield i, 3)) (h : qm_get lay pe (pc + 3) ls st σ = some r) (k : qm_go p l e R s m args below meth c cells slots Q D A α cA cR lay H0 nL r)
    (hP : va_P D vwCl (qm_W α cA cR lay σ) H) (hD : va_D A (qm_W α cA cR lay σ)) (hS : va_S A H0 H locs) (hl : qm_lok α LS nL ls) :
    W p l e R s m args below meth c H locs cells slots Q (F0 m pc LS (st.map (qm_rl α))) := by
  unfold qm_get at h
  split at h
  · rename_i ci kf fl a t
    obtain ⟨C, T, N, ty, h1, h2, h3, h4, -⟩ := hpe _ rfl
    split at h
    · rename_i cj fs he
      split at h
      · rename_i hc
        subst hc
        split at h
        · rename_i sl hf
          cases h
          exact va_get hx hb hts h4 hown hK hP a (qm_W_at he) h1 kf h2 (hts _ h3) (fun _ q => q) (v := .int (qm_rI σ sl)) (by rw [List.getElem?_map, hf]; rfl) hd (k H locs LS hP hD hS hl)
        · rename_i b hf
          cases h
          exact va_get hx hb hts h4 hown hK hP a (qm_W_at he) h1 kf h2 (hts _ h3) (fun _ q => q) (v := .ref (α b)) (by rw [List.getElem?_map, hf]; rfl) hd (k H locs LS hP hD hS hl)
        · cases h
      · cases h
    · cases h
  · cases h
theorem qm_putW (hx : p.tables.exec = Jvm.exec) (hb : c.code = cc) {pc nL : Nat} {ls : qm_LS} {st : List Value} {σ : qm_St} {r : qm_Re} {LS : Array Slot} {G : List Cond} {cnm : Nat → String} {own : String} {i : Nat} {pe : Option qm_PE} (hw : qm_wf lay) (hts : ∀ w ∈ G, w.before args s = true) (hown : s.vm.findClass own = some m.cls) (hK : va_K D vwCl (qm_ty cA cR) s) (hpe : ∀ z, pe = some z → qm_peOK G cnm own i z) (hd : decode cc pc = .ok (.putfield i, 3)) (h : qm_put lay pe (pc + 3) ls st σ = some r) (k : qm_go p l e R s m args below meth c cells slots Q D A α cA cR lay H0 nL r)
    (hP : va_P D vwCl (qm_W α cA cR lay σ) H) (hD : va_D A (qm_W α cA cR lay σ)) (hS : va_S A H0 H locs) (hl : qm_lok α LS nL ls) :
    W p l e R s m args below meth c H locs cells slots Q (F0 m pc LS (st.map (qm_rl α))) := by
  unfold qm_put at h
  split at h
  · rename_i ci kf fl v a t
    obtain ⟨C, T, N, ty, h1, h2, h3, h4, h5, h6, h7, h8⟩ := hpe _ rfl
    split at h
    · rename_i cj fs he
      split at h
      · rename_i hc
        obtain ⟨hc, hfl⟩ := hc
        subst hc
        split at h
        · rename_i sl hf
          cases h
          have hty : (T kf).2.2.2 = false ∧ narrow (ty kf) (.int v) = .int v ∧ fits (ty kf) (.int v) = true := by
            rcases hfl with hfl | ⟨hfl, hv⟩
            · obtain ⟨a1, a2⟩ := h7 hfl
              exact ⟨a2, by rw [a1]; exact ⟨rfl, rfl⟩⟩
            · obtain ⟨a1, a2⟩ := h8 hfl
              rcases hv with rfl | rfl
              · exact ⟨a2, by rw [a1]; exact ⟨rfl, rfl⟩⟩
              · exact ⟨a2, by rw [a1]; exact ⟨rfl, rfl⟩⟩
          refine va_put (v := .int v) hx hb hts h4 ty h5 h6 hown hK hP hD hS a (qm_W_at he) h1 kf h2 (hts _ h3) (fun _ q => q) hty.1 (h5 kf h2) hty.2.1 hty.2.2 (by rw [List.length_map]; exact (List.getElem?_eq_some_iff.mp hf).1) hd (fun H1 locs1 hP1 hD1 hS1 => ?_)
          rw [qm_W_wI hw he hf v] at hP1 hD1
          exact k H1 locs1 LS hP1 hD1 hS1 hl
        · cases h
      · cases h
    · cases h
  · cases h
theorem qm_ialW (hx : p.tables.exec = Jvm.exec) (hb : c.code = cc) {pc nL : Nat} {ls : qm_LS} {st : List Value} {σ : qm_St} {r : qm_Re} {LS : Array Slot}  (hK : va_K D vwCl (qm_ty cA cR) s) (hd : decode cc pc = .ok (.iaload, 1)) (h : qm_ial lay (pc + 1) ls st σ = some r) (k : qm_go p l e R s m args below meth c cells slots Q D A α cA cR lay H0 nL r)
    (hP : va_P D vwCl (qm_W α cA cR lay σ) H) (hD : va_D A (qm_W α cA cR lay σ)) (hS : va_S A H0 H locs) (hl : qm_lok α LS nL ls) :
    W p l e R s m args below meth c H locs cells slots Q (F0 m pc LS (st.map (qm_rl α))) := by
  unfold qm_ial at h
  split at h
  · rename_i i a t
    split at h
    · rename_i n j he
      split at h
      · cases h
      · rename_i g
        cases h
        exact va_iald hx hb hK hP a 0 (qm_W_at he) rfl g hd (k H locs LS hP hD hS hl)
    · cases h
  · cases h
theorem qm_aalW (hx : p.tables.exec = Jvm.exec) (hb : c.code = cc) {pc nL : Nat} {ls : qm_LS} {st : List Value} {σ : qm_St} {r : qm_Re} {LS : Array Slot}  (hK : va_K D vwCl (qm_ty cA cR) s) (hd : decode cc pc = .ok (.aaload, 1)) (h : qm_aal lay (pc + 1) ls st σ = some r) (k : qm_go p l e R s m args below meth c cells slots Q D A α cA cR lay H0 nL r)
    (hP : va_P D vwCl (qm_W α cA cR lay σ) H) (hD : va_D A (qm_W α cA cR lay σ)) (hS : va_S A H0 H locs) (hl : qm_lok α LS nL ls) :
    W p l e R s m args below meth c H locs cells slots Q (F0 m pc LS (st.map (qm_rl α))) := by
  unfold qm_aal at h
  split at h
  · rename_i i a t
    split at h
    · rename_i n b he
      split at h
      · cases h
      · rename_i g
        cases h
        have hlt : i.toNatClampNeg < n := Nat.not_le.mp fun q => g (Or.inr q)
        exact W.aald (v := .ref (α (b + i.toNatClampNeg))) (ty := .array .int) hx hb (hP a _ (qm_W_at he)) ((hK.2 1 _ rfl).1 n (fun j => va_rf (some (α (b + j))))) rfl (fun q => by cases q) (by show ¬ (i < 0 ∨ (arrV _ _ _).slots.size ≤ _); rw [arrV_size]; exact g) (by show (arrV _ _ _).slots[_]? = _; rw [arrV_read _ _ hlt]; rfl) rfl rfl hd (k H locs LS hP hD hS hl)
    · cases h
  · cases h
theorem qm_iasW (hx : p.tables.exec = Jvm.exec) (hb : c.code = cc) {pc nL : Nat} {ls : qm_LS} {st : List Value} {σ : qm_St} {r : qm_Re} {LS : Array Slot}  (hw : qm_wf lay) (hK : va_K D vwCl (qm_ty cA cR) s) (hd : decode cc pc = .ok (.iastore, 1)) (h : qm_ias lay (pc + 1) ls st σ = some r) (k : qm_go p l e R s m args below meth c cells slots Q D A α cA cR lay H0 nL r)
    (hP : va_P D vwCl (qm_W α cA cR lay σ) H) (hD : va_D A (qm_W α cA cR lay σ)) (hS : va_S A H0 H locs) (hl : qm_lok α LS nL ls) :
    W p l e R s m args below meth c H locs cells slots Q (F0 m pc LS (st.map (qm_rl α))) := by
  unfold qm_ias at h
  split at h
  · rename_i x i a t
    split at h
    · rename_i n j he
      split at h
      · cases h
      · rename_i g
        cases h
        refine va_iast hx hb hK hP hD hS a 0 (qm_W_at he) rfl g hd (fun H1 locs1 hP1 hD1 hS1 => ?_)
        rw [qm_W_wR hw he, ← qm_wF_wR] at hP1 hD1
        exact k H1 locs1 LS hP1 hD1 hS1 hl
    · cases h
  · cases h
theorem qm_alnW (hx : p.tables.exec = Jvm.exec) (hb : c.code = cc) {pc nL : Nat} {ls : qm_LS} {st : List Value} {σ : qm_St} {r : qm_Re} {LS : Array Slot}  (hK : va_K D vwCl (qm_ty cA cR) s) (hd : decode cc pc = .ok (.arraylength, 1)) (h : qm_aln lay (pc + 1) ls st σ = some r) (k : qm_go p l e R s m args below meth c cells slots Q D A α cA cR lay H0 nL r)
    (hP : va_P D vwCl (qm_W α cA cR lay σ) H) (hD : va_D A (qm_W α cA cR lay σ)) (hS : va_S A H0 H locs) (hl : qm_lok α LS nL ls) :
    W p l e R s m args below meth c H locs cells slots Q (F0 m pc LS (st.map (qm_rl α))) := by
  unfold qm_aln at h
  split at h
  · rename_i a t
    split at h
    · rename_i n j he
      cases h
      exact va_alen hx hb hK hP a 0 (qm_W_at he) (ty := .int) rfl rfl hd (k H locs LS hP hD hS hl)
    · cases h
  · cases h
theorem qm_ldcW (hE : qm_E α A s s.heap) (hx : p.tables.exec = Jvm.exec) (hb : c.code = cc) {pc nL : Nat} {ls : qm_LS} {st : List Value} {σ : qm_St} {r : qm_Re} {LS : Array Slot} {G : List Cond} {cnm : Nat → String} {own : String} {i : Nat} {pe : Option qm_PE} (hts : ∀ w ∈ G, w.before args s = true) (hown : s.vm.findClass own = some m.cls) (hK : va_K D vwCl (qm_ty cA cR) s) (hpe : ∀ z, pe = some z → qm_peOK G cnm own i z) (hd : decode cc pc = .ok (.ldc i, 2)) (h : qm_ldc pe (pc + 2) ls st σ = some r) (k : qm_go p l e R s m args below meth c cells slots Q D A α cA cR lay H0 nL r)
    (hP : va_P D vwCl (qm_W α cA cR lay σ) H) (hD : va_D A (qm_W α cA cR lay σ)) (hS : va_S A H0 H locs) (hl : qm_lok α LS nL ls) :
    W p l e R s m args below meth c H locs cells slots Q (F0 m pc LS (st.map (qm_rl α))) := by
  unfold qm_ldc at h
  split at h
  · cases h
    exact lv_ldc hx hb hown (hts _ (hpe _ rfl)) hd (k H locs LS hP hD hS hl)
  · cases h
    obtain ⟨h1, rfl, rfl⟩ := hpe _ rfl
    exact va_ldcS hx hb hown (hE.2.2.2 _ h1) hd (k H locs LS hP hD hS hl)
  · cases h
theorem qm_ldcwW (hx : p.tables.exec = Jvm.exec) (hb : c.code = cc) {pc nL : Nat} {ls : qm_LS} {st : List Value} {σ : qm_St} {r : qm_Re} {LS : Array Slot} {G : List Cond} {cnm : Nat → String} {own : String} {i : Nat} {pe : Option qm_PE} (hts : ∀ w ∈ G, w.before args s = true) (hown : s.vm.findClass own = some m.cls) (hK : va_K D vwCl (qm_ty cA cR) s) (hpe : ∀ z, pe = some z → qm_peOK G cnm own i z) (hd : decode cc pc = .ok (.ldc_w i, 3)) (h : qm_ldcI pe (pc + 3) ls st σ = some r) (k : qm_go p l e R s m args below meth c cells slots Q D A α cA cR lay H0 nL r)
    (hP : va_P D vwCl (qm_W α cA cR lay σ) H) (hD : va_D A (qm_W α cA cR lay σ)) (hS : va_S A H0 H locs) (hl : qm_lok α LS nL ls) :
    W p l e R s m args below meth c H locs cells slots Q (F0 m pc LS (st.map (qm_rl α))) := by
  unfold qm_ldcI at h
  split at h
  · cases h
    exact lv_ldcw hx hb hown (hts _ (hpe _ rfl)) hd (k H locs LS hP hD hS hl)
  · cases h
theorem qm_ldc2W (hx : p.tables.exec = Jvm.exec) (hb : c.code = cc) {pc nL : Nat} {ls : qm_LS} {st : List Value} {σ : qm_St} {r : qm_Re} {LS : Array Slot} {G : List Cond} {cnm : Nat → String} {own : String} {i : Nat} {pe : Option qm_PE} (hts : ∀ w ∈ G, w.before args s = true) (hown : s.vm.findClass own = some m.cls) (hK : va_K D vwCl (qm_ty cA cR) s) (hpe : ∀ z, pe = some z → qm_peOK G cnm own i z) (hd : decode cc pc = .ok (.ldc2_w i, 3)) (h : qm_ldc2 pe (pc + 3) ls st σ = some r) (k : qm_go p l e R s m args below meth c cells slots Q D A α cA cR lay H0 nL r)
    (hP : va_P D vwCl (qm_W α cA cR lay σ) H) (hD : va_D A (qm_W α cA cR lay σ)) (hS : va_S A H0 H locs) (hl : qm_lok α LS nL ls) :
    W p l e R s m args below meth c H locs cells slots Q (F0 m pc LS (st.map (qm_rl α))) := by
  unfold qm_ldc2 at h
  split at h
  · cases h
    exact lv_ldc2 hx hb hown (hts _ (hpe _ rfl)) hd (k H locs LS hP hD hS hl)
  · cases h
theorem qm_libW (hx : p.tables.exec = Jvm.exec) (hb : c.code = cc) {pc nL : Nat} {ls : qm_LS} {st : List Value} {σ : qm_St} {r : qm_Re} {LS : Array Slot} {G : List Cond} {cnm : Nat → String} {own : String} {i : Nat} {pe : Option qm_PE} (hw : qm_wf lay) (hml : c.maxLocals = nL) (hR1 : 1 ≤ R.frames) (hR2 : 40 ≤ R.locals) (hR3 : cells ≤ R.cells) (hR4 : slots ≤ R.slots) (hts : ∀ w ∈ G, w.before args s = true) (hown : s.vm.findClass own = some m.cls) (hK : va_K D vwCl (qm_ty cA cR) s) (hpe : ∀ z, pe = some z → qm_peOK G cnm own i z) (hd : decode cc pc = .ok (.invokestatic i, 3)) (h : qm_lib lay pe (pc + 3) ls st σ = some r) (k : qm_go p l e R s m args below meth c cells slots Q D A α cA cR lay H0 nL r)
    (hP : va_P D vwCl (qm_W α cA cR lay σ) H) (hD : va_D A (qm_W α cA cR lay σ)) (hS : va_S A H0 H locs) (hl : qm_lok α LS nL ls) :
    W p l e R s m args below meth c H locs cells slots Q (F0 m pc LS (st.map (qm_rl α))) := by
  have hml2 : c.maxLocals = LS.size := by rw [hml, hl.1]
  have hcat : ∀ t : List Value, qm_cat t ≤ 8 → ((t.map (qm_rl α)).map fun v => v.category).sum ≤ 8 := fun t ht => by
    rw [List.map_map]
    exact (show (t.map ((fun v => v.category) ∘ qm_rl α)) = t.map (fun v => v.category) from List.map_congr_left fun v _ => qm_rl_cat α v) ▸ ht
  unfold qm_lib at h
  split at h
  · obtain ⟨h1, h2, h3, h4⟩ := hpe _ rfl
    split at h
    · rename_i y x t
      split at h
      · rename_i g
        cases h
        exact va_mmin hx hb hml2 hown (hts _ h1) (hts _ h2) (hts _ h3) (hts _ h4) hR1 (by have := hcat t g; omega) hR3 hR4 hd (k H locs LS hP hD hS hl)
      · cases h
    · cases h
  · obtain ⟨h1, h2, h3, h4⟩ := hpe _ rfl
    split at h
    · rename_i y x t
      split at h
      · rename_i g
        cases h
        exact va_mmax hx hb hml2 hown (hts _ h1) (hts _ h2) (hts _ h3) (hts _ h4) hR1 (by have := hcat t g; omega) hR3 hR4 hd (k H locs LS hP hD hS hl)
      · cases h
    · cases h
  · obtain ⟨h1, h2, h3, h4⟩ := hpe _ rfl
    split at h
    · rename_i n dp b sp a
      split at h
      · rename_i n0 i0 n1 j0 he1 he2
        split at h
        · cases h
        · rename_i g
          cases h
          simp only [not_or] at g
          obtain ⟨g1, g2, g3, g4, g5⟩ := g
          have e9 : nativeFrameWords "java/lang/System" "arraycopy" 5 = 7 := by decide +kernel
          have e10 : (([] : List Value).map fun v => v.category).sum + (nativeFrameWords "java/lang/System" "arraycopy" 5 + 11) ≤ R.locals := by
            rw [e9]
            simp
            omega
          refine va_copyi (rest := []) hx hb hml2 hown (hts _ h1) (hts _ h2) (hts _ h3) (hts _ h4) hK hP hD hS a b 0 0 (qm_W_at he1) (qm_W_at he2) rfl rfl rfl g1 g2 g3 (Nat.not_lt.mp g4) (Nat.not_lt.mp g5) (fun _ _ => rfl) hR1 e10 hd (fun H1 locs1 hP1 hD1 hS1 => ?_)
          rw [qm_W_wR hw he2] at hP1 hD1
          exact k H1 locs1 LS hP1 hD1 hS1 hl
      · cases h
    · cases h
  · cases h
theorem qm_sref_inv {k : Nat} {t : List Int32} (h : qm_sref k = some t) : ∃ i, i < 13 ∧ k = 1000 + i ∧ t = qm_str.getD i [] ∧ t.length = qm_sl.getD i 0 := by
  unfold qm_sref at h
  split at h
  · rename_i g
    have hlt : k - 1000 < 13 := by
      have := (List.getElem?_eq_some_iff.mp h).1
      have e : qm_str.length = 13 := by decide +kernel
      omega
    have ht : t = qm_str.getD (k - 1000) [] := by rw [List.getD_eq_getElem?_getD, h]; rfl
    refine ⟨k - 1000, hlt, by omega, ht, ?_⟩
    rw [qm_sl, List.getD_eq_getElem?_getD, List.getElem?_map, h]; rfl
  · cases h
theorem qm_sopW (hE : qm_E α A s s.heap) (hJ : ∀ w ∈ qm_jw, w ∈ GG) (hG : ∀ w ∈ GG, (w.onTables && w.keeps) = true ∨ ∃ ty, w = Cond.arrayClass ty) (hx : p.tables.exec = Jvm.exec) (hb : c.code = cc) {pc nL : Nat} {ls : qm_LS} {st : List Value} {σ : qm_St} {r : qm_Re} {LS : Array Slot} {cnm : Nat → String} {own : String} {i : Nat} {pe : Option qm_PE} (hml : c.maxLocals = nL) (hR1 : 5 ≤ R.frames) (hR2 : 320 ≤ R.locals) (hR3 : cells ≤ R.cells) (hR4 : slots ≤ R.slots)
    (hts : ∀ w ∈ GG, w.before args s = true) (hown : s.vm.findClass own = some m.cls) (hpe : ∀ z, pe = some z → qm_peOK GG cnm own i z) (hd : decode cc pc = .ok (.invokevirtual i, 3)) (h : qm_sop pe (pc + 3) ls st σ = some r) (k : qm_go p l e R s m args below meth c cells slots Q D A α cA cR lay s.heap nL r)
    (hP : va_P D vwCl (qm_W α cA cR lay σ) H) (hD : va_D A (qm_W α cA cR lay σ)) (hS : va_S A s.heap H locs) (hl : qm_lok α LS nL ls) :
    W p l e R s m args below meth c H locs cells slots Q (F0 m pc LS (st.map (qm_rl α))) := by
  have hcat : ∀ t : List Value, qm_cat t ≤ 8 → ((t.map (qm_rl α)).map fun v => v.category).sum ≤ 8 := fun t ht => by
    rw [List.map_map]
    exact (show (t.map ((fun v => v.category) ∘ qm_rl α)) = t.map (fun v => v.category) from List.map_congr_left fun v _ => qm_rl_cat α v) ▸ ht
  obtain ⟨⟨adV, hV⟩, hZ⟩ := id hE
  unfold qm_sop at h
  split at h
  · obtain ⟨h1, h2, h3, h4⟩ := hpe _ rfl
    split at h
    · rename_i q t
      split at h
      · rename_i tx htx
        split at h
        · rename_i g
          cases h
          obtain ⟨j, hj, rfl, rfl, hlen⟩ := qm_sref_inv htx
          have kk := k H locs LS hP hD hS hl
          rw [hlen] at kk
          exact qj_call (w := some (.int (Int32.ofNat (qm_sl.getD j 0)))) (rest := t.map (qm_rl α)) (qj_callR (va_runV (b := α (1000 + j)) (C := RJ0) (As := []) (rest := t.map (qm_rl α)) ⟨hx, hb, hml, hown, hts⟩ (qj_length hJ hG l hj)
            ⟨qj_callB (n := 0) hts hG h1 (qj_jw 4 hJ rfl) h4 (by decide +kernel) (by decide +kernel) (by omega) (by omega), hts _ h2, hts _ h3⟩
            ⟨qj_blind, vk_recv (adK := fun i => α (1000 + i)) (i := j) hV hj hS, fun U hU hW => ⟨rfl, hE.to hS hW hU (fun _ q => q.elim)⟩⟩ rfl rfl hl.1 rfl (by show 2 * 0 + _ ≤ 8; have := hcat t g; omega) hd ⟨hR3, hR4⟩)) kk
        · cases h
      · cases h
    · cases h
  · obtain ⟨h1, h2, h3, h4⟩ := hpe _ rfl
    split at h
    · rename_i jj q t
      split at h
      · rename_i tx htx
        split at h
        · rename_i g
          cases h
          obtain ⟨j, hj, rfl, rfl, hlen⟩ := qm_sref_inv htx
          have hsl := qj_sl_lt j hj
          obtain ⟨k0, hk0, rfl⟩ := vp_in_of (x := jj) (n := qm_sl.getD j 0) (by rw [← hlen]; exact g.1) hsl
          have kk := k H locs LS hP hD hS hl
          rw [nI_clamp (by omega)] at kk
          exact qj_call (w := some (.int ((qm_str.getD j []).getD k0 0))) (rest := t.map (qm_rl α)) (qj_callR (va_runV (b := α (1000 + j)) (C := RJ0) (As := [.int (nI k0)]) (rest := t.map (qm_rl α)) ⟨hx, hb, hml, hown, hts⟩ (qj_charAt hJ hG l hj hk0)
            ⟨qj_callB (n := 1) hts hG h1 (qj_jw 4 hJ rfl) h4 (by decide +kernel) (by decide +kernel) (by omega) (by omega), hts _ h2, hts _ h3⟩
            ⟨qj_blind, vk_recv (adK := fun i => α (1000 + i)) (i := j) hV hj hS, fun U hU hW => ⟨rfl, hE.to hS hW hU (fun _ q => q.elim)⟩⟩ rfl rfl hl.1 rfl (by show 2 * 0 + _ ≤ 8; have := hcat t g.2; omega) hd ⟨hR3, hR4⟩)) kk
        · cases h
      · cases h
    · cases h
  · cases h
end QMS
