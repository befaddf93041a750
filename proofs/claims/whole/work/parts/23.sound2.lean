/-! ===== one instruction of the pure machine is one of the real one ===== -/
abbrev qm_ty (cA cR : ClassId) : List (ClassId × FieldType) := [(cA, .int), (cR, .array .int)]
/-- what the tables must say of a place of a pool -/
def qm_peOK (G : List Cond) (cnm : Nat → String) (own : String) (idx : Nat) : qm_PE → Prop
  | .inl (ci, k, fl) => ∃ (C : String) (T : u_T) (N : Nat) (ty : Nat → FieldType), vwCl[ci]? = some (C, T, N) ∧ k < N ∧ Cond.fieldLink own idx (T k).1 (T k).2.1 (T k).2.2.1 ∈ G ∧ (∀ w ∈ u_ws C T N, w ∈ G) ∧
      (∀ j, j < N → parseFieldDescriptor (T j).2.2.1 = some (ty j)) ∧ (∀ a, a < N → ∀ b, b < N → a ≠ b → (T a).2.1 ≠ (T b).2.1) ∧ (fl = 0 → ty k = .int ∧ (T k).2.2.2 = false) ∧ (fl = 1 → ty k = .boolean ∧ (T k).2.2.2 = false)
  | .inr (.inl (stt, mj)) => Cond.code mj.1 mj.2.1 mj.2.2.1 mj.2.2.2.1 ∈ G ∧ Cond.methodLink own idx mj.1 ∈ G ∧ Cond.initialized mj.1.cls ∈ G ∧ plainName mj.1.cls = true ∧ (mj.1.cls ≠ "java/lang/invoke/MethodHandle" ∧ mj.1.cls ≠ "java/lang/invoke/VarHandle") ∧
      (parseMethodDescriptor mj.1.desc).map (fun d => d.parameters.length) = some mj.2.2.2.2.2 ∧ mj.1.cls = cnm mj.2.2.2.2.1 ∧ mj.2.2.1 ≤ 40 ∧
      (stt = true → Cond.static mj.1 ∈ G) ∧ (stt = false → Cond.instanceMethod mj.1 ∈ G ∧ Cond.selects mj.1.cls mj.1 mj.1 ∈ G ∧ ∃ (T : u_T) (N : Nat), vwCl[mj.2.2.2.2.1]? = some (mj.1.cls, T, N))
  | .inr (.inr (.inl v)) => Cond.constant own idx v ∈ G
  | .inr (.inr (.inr (.inl v))) => Cond.constantLong own idx v ∈ G
  | .inr (.inr (.inr (.inr 0))) => Cond.methodLink own idx Lib.Math.min.name ∈ G ∧ Cond.static Lib.Math.min.name ∈ G ∧ Cond.initialized "java/lang/Math" ∈ G ∧ Cond.code Lib.Math.min.name Lib.Math.min.code 2 (some .int) ∈ G
  | .inr (.inr (.inr (.inr 1))) => Cond.methodLink own idx Lib.Math.max.name ∈ G ∧ Cond.static Lib.Math.max.name ∈ G ∧ Cond.initialized "java/lang/Math" ∈ G ∧ Cond.code Lib.Math.max.name Lib.Math.max.code 2 (some .int) ∈ G
  | .inr (.inr (.inr (.inr 2))) => Cond.methodLink own idx arraycopyName ∈ G ∧ Cond.native arraycopyName ∈ G ∧ Cond.static arraycopyName ∈ G ∧ Cond.initialized "java/lang/System" ∈ G
  | .inr (.inr (.inr (.inr (_ + 3)))) => False
section QMS
variable {p : Program} {l : Launch} {e : Env} {R : Room} {s : State} {m : MethodId} {args : Array Value} {below : List Frame} {meth : Method} {c : Code} {H : Heap} {locs : List Loc} {cells slots : Nat} {Q : State → Prop}
variable {cc : ByteArray} {D : va_G} {A : Nat → Prop} {α : Nat → Nat} {cA cR : ClassId} {lay : List qm_LE} {H0 : Heap}
/-- the road goes on from any state that the answer r describes -/
def qm_go (p : Program) (l : Launch) (e : Env) (R : Room) (s : State) (m : MethodId) (args : Array Value) (below : List Frame) (meth : Method) (c : Code) (cells slots : Nat) (Q : State → Prop) (D : va_G) (A : Nat → Prop) (α : Nat → Nat) (cA cR : ClassId) (lay : List qm_LE) (H0 : Heap) (nL : Nat) (r : qm_Re) : Prop :=
  ∀ (H1 : Heap) (locs1 : List Loc) (LS1 : Array Slot), va_P D vwCl (qm_W α cA cR lay r.2.2.2) H1 → va_D A (qm_W α cA cR lay r.2.2.2) → va_S A H0 H1 locs1 → qm_lok α LS1 nL r.2.1 → W p l e R s m args below meth c H1 locs1 cells slots Q (F0 m r.1 LS1 (r.2.2.1.map (qm_rl α)))
theorem qm_jmpW {pc nL : Nat} {off : Int} {ls : qm_LS} {st : List Value} {σ : qm_St} {r : qm_Re} {LS : Array Slot} (h : qm_jmp pc off ls st σ = some r) (k : qm_go p l e R s m args below meth c cells slots Q D A α cA cR lay H0 nL r)
    (hP : va_P D vwCl (qm_W α cA cR lay σ) H) (hD : va_D A (qm_W α cA cR lay σ)) (hS : va_S A H0 H locs) (hl : qm_lok α LS nL ls) :
    ∃ t : Nat, (pc : Int) + off = (t : Int) ∧ W p l e R s m args below meth c H locs cells slots Q (F0 m t LS (st.map (qm_rl α))) := by
  obtain ⟨t, h1, rfl⟩ := qm_jmp_inv h
  exact ⟨t, h1, k H locs LS hP hD hS hl⟩
theorem qm_ifW (hx : p.tables.exec = Jvm.exec) (hb : c.code = cc) {pc nL : Nat} {cd : ClassFile.Cond} {off : Int} {ls : qm_LS} {st : List Value} {σ : qm_St} {r : qm_Re} {LS : Array Slot} (hd : decode cc pc = .ok (.ifCond cd off, 3)) (h : qm_if cd off pc ls st σ = some r) (k : qm_go p l e R s m args below meth c cells slots Q D A α cA cR lay H0 nL r)
    (hP : va_P D vwCl (qm_W α cA cR lay σ) H) (hD : va_D A (qm_W α cA cR lay σ)) (hS : va_S A H0 H locs) (hl : qm_lok α LS nL ls) :
    W p l e R s m args below meth c H locs cells slots Q (F0 m pc LS (st.map (qm_rl α))) := by
  unfold qm_if at h
  split at h
  · rename_i x t
    split at h
    · rename_i hg
      cases h
      have k' := k H locs LS hP hD hS hl
      dsimp only at k'
      have ht : (pc : Int) + off = ((((pc : Int) + off).toNat : Nat) : Int) := (Int.toNat_of_nonneg hg).symm
      have kt : qm_c1 cd x = true → W p l e R s m args below meth c H locs cells slots Q (F0 m (((pc : Int) + off).toNat) LS (t.map (qm_rl α))) := fun g => by
        rw [if_pos g] at k'
        exact k'
      have kf : ¬ qm_c1 cd x = true → W p l e R s m args below meth c H locs cells slots Q (F0 m (pc + 3) LS (t.map (qm_rl α))) := fun g => by
        rw [if_neg g] at k'
        exact k'
      show W p l e R s m args below meth c H locs cells slots Q (F0 m pc LS (.int x :: t.map (qm_rl α)))
      cases cd with
      | eq => exact lv_if_eq hx hb hd ht (fun z => kt (decide_eq_true z)) (fun z => kf (fun y => z (of_decide_eq_true y)))
      | ne => exact lv_if_ne hx hb hd ht (fun z => kt (decide_eq_true z)) (fun z => kf (fun y => z (of_decide_eq_true y)))
      | lt => exact lv_if_lt hx hb hd ht (fun z => kt (decide_eq_true z)) (fun z => kf (fun y => z (of_decide_eq_true y)))
      | ge => exact lv_if_ge hx hb hd ht (fun z => kt (decide_eq_true z)) (fun z => kf (fun y => z (of_decide_eq_true y)))
      | gt => exact lv_if_gt hx hb hd ht (fun z => kt (decide_eq_true z)) (fun z => kf (fun y => z (of_decide_eq_true y)))
      | le => exact lv_if_le hx hb hd ht (fun z => kt (decide_eq_true z)) (fun z => kf (fun y => z (of_decide_eq_true y)))
    · cases h
  · cases h
theorem qm_if2W (hx : p.tables.exec = Jvm.exec) (hb : c.code = cc) {pc nL : Nat} {cd : ClassFile.Cond} {off : Int} {ls : qm_LS} {st : List Value} {σ : qm_St} {r : qm_Re} {LS : Array Slot} (hd : decode cc pc = .ok (.if_icmp cd off, 3)) (h : qm_if2 cd off pc ls st σ = some r) (k : qm_go p l e R s m args below meth c cells slots Q D A α cA cR lay H0 nL r)
    (hP : va_P D vwCl (qm_W α cA cR lay σ) H) (hD : va_D A (qm_W α cA cR lay σ)) (hS : va_S A H0 H locs) (hl : qm_lok α LS nL ls) :
    W p l e R s m args below meth c H locs cells slots Q (F0 m pc LS (st.map (qm_rl α))) := by
  unfold qm_if2 at h
  split at h
  · rename_i y x t
    split at h
    · rename_i hg
      cases h
      have k' := k H locs LS hP hD hS hl
      dsimp only at k'
      have ht : (pc : Int) + off = ((((pc : Int) + off).toNat : Nat) : Int) := (Int.toNat_of_nonneg hg).symm
      have kt : qm_c2 cd x y = true → W p l e R s m args below meth c H locs cells slots Q (F0 m (((pc : Int) + off).toNat) LS (t.map (qm_rl α))) := fun g => by
        rw [if_pos g] at k'
        exact k'
      have kf : ¬ qm_c2 cd x y = true → W p l e R s m args below meth c H locs cells slots Q (F0 m (pc + 3) LS (t.map (qm_rl α))) := fun g => by
        rw [if_neg g] at k'
        exact k'
      show W p l e R s m args below meth c H locs cells slots Q (F0 m pc LS (.int y :: .int x :: t.map (qm_rl α)))
      cases cd with
      | eq => exact lv_icmp_eq hx hb hd ht (fun z => kt (decide_eq_true z)) (fun z => kf (fun y => z (of_decide_eq_true y)))
      | ne => exact lv_icmp_ne hx hb hd ht (fun z => kt (decide_eq_true z)) (fun z => kf (fun y => z (of_decide_eq_true y)))
      | lt => exact lv_icmp_lt hx hb hd ht (fun z => kt (decide_eq_true z)) (fun z => kf (fun y => z (of_decide_eq_true y)))
      | ge => exact lv_icmp_ge hx hb hd ht (fun z => kt (decide_eq_true z)) (fun z => kf (fun y => z (of_decide_eq_true y)))
      | gt => exact lv_icmp_gt hx hb hd ht (fun z => kt (decide_eq_true z)) (fun z => kf (fun y => z (of_decide_eq_true y)))
      | le => exact lv_icmp_le hx hb hd ht (fun z => kt (decide_eq_true z)) (fun z => kf (fun y => z (of_decide_eq_true y)))
    · cases h
  · cases h
end QMS
