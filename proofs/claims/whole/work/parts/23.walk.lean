/-! ===== the pure machine, walked: what a method does, by its instructions ===== -/
theorem qm_mono (lay : List qm_LE) : ∀ (n : Nat) (d : Nat) (mi : qm_MI) (pc : Nat) (ls : qm_LS) (st : List Value) (σ : qm_St) (r : Option Value × qm_St) (n' d' : Nat), qm_X qm_pool lay n d mi pc ls st σ = some r → n ≤ n' → d ≤ d' → qm_X qm_pool lay n' d' mi pc ls st σ = some r := by
  intro n
  induction n with
  | zero => intro d mi pc ls st σ r n' d' h; cases h
  | succ n ih =>
    intro d mi pc ls st σ r n' d' h hn hd
    obtain ⟨m, rfl⟩ : ∃ m, n' = m + 1 := ⟨n' - 1, by omega⟩
    rw [qm_X] at h ⊢
    cases hdec : decode mi.2.1 pc with
    | error er => rw [hdec] at h; cases h
    | ok q =>
      obtain ⟨ins, len⟩ := q
      rw [hdec] at h
      dsimp only at h ⊢
      split at h
      · rename_i hc
        rw [if_pos hc]
        split at h
        · rename_i w he
          exact h
        · rename_i he
          split at h
          · rename_i mj as rest hcall
            split at h
            · cases h
            · rename_i d0
              obtain ⟨d1, rfl⟩ : ∃ d1, d' = d1 + 1 := ⟨d' - 1, by omega⟩
              dsimp only
              split at h
              · cases h
              · rename_i w σ' hX
                rw [ih d0 mj 0 _ _ _ _ m d1 hX (by omega) (by omega)]
                exact ih (d0 + 1) mi _ _ _ _ _ m (d1 + 1) h (by omega) (by omega)
          · rename_i hcall
            split at h
            · rename_i pc' ls' st' σ' hsem
              exact ih d mi _ _ _ _ _ m d' h (by omega) hd
            · cases h
      · cases h
/-- from here the method ends with the answer v and the store τ -/
def Ex (lay : List qm_LE) (d : Nat) (mi : qm_MI) (pc : Nat) (ls : qm_LS) (st : List Value) (σ : qm_St) (v : Option Value) (τ : qm_St) : Prop := ∃ n, qm_X qm_pool lay n d mi pc ls st σ = some (v, τ)
/-- a whole call -/
def Ok (lay : List qm_LE) (d : Nat) (mi : qm_MI) (as : List Value) (σ : qm_St) (v : Option Value) (τ : qm_St) : Prop := (qm_fl as).length ≤ mi.2.2.1 ∧ Ex lay d mi 0 (qm_ent as mi.2.2.1) [] σ v τ
theorem Ok.of {lay : List qm_LE} {d : Nat} {mi : qm_MI} {as : List Value} {σ τ : qm_St} {v : Option Value} {ls : qm_LS} (h1 : (qm_fl as).length ≤ mi.2.2.1) (h2 : qm_ent as mi.2.2.1 = ls) (h : Ex lay d mi 0 ls [] σ v τ) : Ok lay d mi as σ v τ := ⟨h1, by rw [h2]; exact h⟩
theorem Ok.mono {lay : List qm_LE} {d d' : Nat} {mi : qm_MI} {as : List Value} {σ τ : qm_St} {v : Option Value} (h : Ok lay d mi as σ v τ) (hd : d ≤ d') : Ok lay d' mi as σ v τ := by
  obtain ⟨h1, n, h2⟩ := h
  exact ⟨h1, n, qm_mono lay n d mi _ _ _ _ _ n d' h2 (Nat.le_refl _) hd⟩
theorem Ok.eq {lay : List qm_LE} {d : Nat} {mi : qm_MI} {as : List Value} {σ τ τ' : qm_St} {v v' : Option Value} (h : Ok lay d mi as σ v τ) (hv : v = v') (ht : τ = τ') : Ok lay d mi as σ v' τ' := by
  subst hv; subst ht; exact h
section EXS
variable {lay : List qm_LE} {d : Nat} {mi : qm_MI} {pc q : Nat} {ls : qm_LS} {st : List Value} {σ : qm_St} {v : Option Value} {τ : qm_St}
theorem ex_sem {ins : Instr} {len : Nat} {ls' : qm_LS} {st' : List Value} {σ' : qm_St} (hd : decode mi.2.1 pc = .ok (ins, len)) (hc : qm_chk ins len = true) (he : qm_end mi.2.2.2.1 ins st = none) (hk : qm_call lay (qm_pool mi.2.2.2.2.1) ins st = none) (h : qm_sem lay (qm_pool mi.2.2.2.2.1) ins pc ls st σ = some (q, ls', st', σ'))
    (k : Ex lay d mi q ls' st' σ' v τ) : Ex lay d mi pc ls st σ v τ := by
  obtain ⟨n, hn⟩ := k
  refine ⟨n + 1, ?_⟩
  rw [qm_X, hd]
  dsimp only
  rw [if_pos hc, he]
  dsimp only
  rw [hk]
  dsimp only
  rw [h]
  exact hn
theorem ex_end {ins : Instr} {len : Nat} {w : Option Value} (hd : decode mi.2.1 pc = .ok (ins, len)) (hc : qm_chk ins len = true) (he : qm_end mi.2.2.2.1 ins st = some w) (hv : w = v) (ht : σ = τ) : Ex lay d mi pc ls st σ v τ := by
  subst hv; subst ht
  refine ⟨1, ?_⟩
  rw [qm_X, hd]
  dsimp only
  rw [if_pos hc, he]
theorem ex_call0 {ins : Instr} {as rest : List Value} {mj : qm_MI} {w : Option Value} {σ' : qm_St} {D : Nat} (hd : decode mi.2.1 pc = .ok (ins, 3)) (hc : qm_chk ins 3 = true) (he : qm_end mi.2.2.2.1 ins st = none) (hk : qm_call lay (qm_pool mi.2.2.2.2.1) ins st = some (mj, as, rest)) (hO : Ok lay D mj as σ w σ') (hD : D < d)
    (k : Ex lay d mi (pc + 3) ls (w.toList ++ rest) σ' v τ) : Ex lay d mi pc ls st σ v τ := by
  obtain ⟨-, n1, h1⟩ := hO
  obtain ⟨n2, h2⟩ := k
  obtain ⟨d0, rfl⟩ : ∃ d0, d = d0 + 1 := ⟨d - 1, by omega⟩
  refine ⟨max n1 n2 + 1, ?_⟩
  rw [qm_X, hd]
  dsimp only
  rw [if_pos hc, he]
  dsimp only
  rw [hk]
  dsimp only
  rw [qm_mono lay n1 D mj 0 _ _ _ _ (max n1 n2) d0 h1 (Nat.le_max_left _ _) (by omega)]
  exact qm_mono lay n2 (d0 + 1) mi _ _ _ _ _ (max n1 n2) (d0 + 1) h2 (Nat.le_max_right _ _) (Nat.le_refl _)
theorem ex_callS {i : Nat} {as rest : List Value} {mj : qm_MI} {w : Option Value} {σ' : qm_St} {D : Nat} (hd : decode mi.2.1 pc = .ok (.invokestatic i, 3)) (hp : pc + 3 = q) (hpo : qm_pool mi.2.2.2.2.1 i = some (.inr (.inl (true, mj)))) (ha : (st.take mj.2.2.2.2.2).reverse = as) (hn : as.length = mj.2.2.2.2.2) (hr : st.drop mj.2.2.2.2.2 = rest) (hcat : qm_cat rest ≤ 8) (hO : Ok lay D mj as σ w σ') (hD : D < d)
    (k : Ex lay d mi q ls (w.toList ++ rest) σ' v τ) : Ex lay d mi pc ls st σ v τ := by
  subst hp; subst ha; subst hr
  rw [List.length_reverse] at hn
  refine ex_call0 hd rfl rfl ?_ hO hD k
  simp only [qm_call, hpo]
  rw [if_pos ⟨hn, hO.1, hcat⟩]
theorem ex_callV {i a ci : Nat} {fs : List (Nat ⊕ Nat)} {as rest : List Value} {mj : qm_MI} {w : Option Value} {σ' : qm_St} {D : Nat} (hd : decode mi.2.1 pc = .ok (.invokevirtual i, 3)) (hp : pc + 3 = q) (hpo : qm_pool mi.2.2.2.2.1 i = some (.inr (.inl (false, mj)))) (ha : (st.take mj.2.2.2.2.2).reverse = as) (hn : as.length = mj.2.2.2.2.2) (hr : st.drop mj.2.2.2.2.2 = .ref a :: rest) (hla : lay[a]? = some (.inl (ci, fs))) (hci : ci = mj.2.2.2.2.1) (hcat : qm_cat rest ≤ 8) (hO : Ok lay D mj (.ref a :: as) σ w σ') (hD : D < d)
    (k : Ex lay d mi q ls (w.toList ++ rest) σ' v τ) : Ex lay d mi pc ls st σ v τ := by
  subst hp; subst ha
  rw [List.length_reverse] at hn
  refine ex_call0 hd rfl rfl ?_ hO hD k
  simp only [qm_call, hpo, hr, hla]
  rw [if_pos ⟨hci, hn, hO.1, hcat⟩]
theorem ex_iconst {n : Int} {x : Int32} (hd : decode mi.2.1 pc = .ok (.iconst n, 1)) (hp : pc + 1 = q) (hx : Int32.ofInt n = x) (k : Ex lay d mi q ls (.int x :: st) σ v τ) : Ex lay d mi pc ls (st) σ v τ := ex_sem hd rfl rfl rfl (by subst hp; subst hx; rfl) k
theorem ex_bipush {n : Int} {x : Int32} (hd : decode mi.2.1 pc = .ok (.bipush n, 2)) (hp : pc + 2 = q) (hx : (Int8.ofInt n).toInt32 = x) (k : Ex lay d mi q ls (.int x :: st) σ v τ) : Ex lay d mi pc ls (st) σ v τ := ex_sem hd rfl rfl rfl (by subst hp; subst hx; rfl) k
theorem ex_sipush {n : Int} {x : Int32} (hd : decode mi.2.1 pc = .ok (.sipush n, 3)) (hp : pc + 3 = q) (hx : (Int16.ofInt n).toInt32 = x) (k : Ex lay d mi q ls (.int x :: st) σ v τ) : Ex lay d mi pc ls (st) σ v τ := ex_sem hd rfl rfl rfl (by subst hp; subst hx; rfl) k
theorem ex_lconst {n : Fin 2} {x : Int64} (hd : decode mi.2.1 pc = .ok (.lconst n, 1)) (hp : pc + 1 = q) (hx : Int64.ofNat (n : Nat) = x) (k : Ex lay d mi q ls (.long x :: st) σ v τ) : Ex lay d mi pc ls (st) σ v τ := ex_sem hd rfl rfl rfl (by subst hp; subst hx; rfl) k
theorem ex_ldc {i : Nat} {x : Int32} (hd : decode mi.2.1 pc = .ok (.ldc i, 2)) (hp : pc + 2 = q) (hpo : qm_pool mi.2.2.2.2.1 i = some (.inr (.inr (.inl x)))) (k : Ex lay d mi q ls (.int x :: st) σ v τ) : Ex lay d mi pc ls (st) σ v τ := ex_sem hd rfl rfl rfl (by subst hp; simp only [qm_sem, hpo]; rfl) k
theorem ex_ldcS {i j : Nat} (hd : decode mi.2.1 pc = .ok (.ldc i, 2)) (hp : pc + 2 = q) (hpo : qm_pool mi.2.2.2.2.1 i = some (.inr (.inr (.inr (.inr (j + 10)))))) (k : Ex lay d mi q ls (.ref (1000 + j) :: st) σ v τ) : Ex lay d mi pc ls (st) σ v τ := ex_sem hd rfl rfl rfl (by subst hp; simp only [qm_sem, hpo]; rfl) k
theorem ex_ldc_w {i : Nat} {x : Int32} (hd : decode mi.2.1 pc = .ok (.ldc_w i, 3)) (hp : pc + 3 = q) (hpo : qm_pool mi.2.2.2.2.1 i = some (.inr (.inr (.inl x)))) (k : Ex lay d mi q ls (.int x :: st) σ v τ) : Ex lay d mi pc ls (st) σ v τ := ex_sem hd rfl rfl rfl (by subst hp; simp only [qm_sem, hpo]; rfl) k
theorem ex_ldc2_w {i : Nat} {x : Int64} (hd : decode mi.2.1 pc = .ok (.ldc2_w i, 3)) (hp : pc + 3 = q) (hpo : qm_pool mi.2.2.2.2.1 i = some (.inr (.inr (.inr (.inl x))))) (k : Ex lay d mi q ls (.long x :: st) σ v τ) : Ex lay d mi pc ls (st) σ v τ := ex_sem hd rfl rfl rfl (by subst hp; simp only [qm_sem, hpo]; rfl) k
theorem ex_iload {i : Nat} {x : Int32} (hd : decode mi.2.1 pc = .ok (.iload i, 2)) (hp : pc + 2 = q) (hl : ls[i]? = some (some (.int x))) (k : Ex lay d mi q ls (.int x :: st) σ v τ) : Ex lay d mi pc ls (st) σ v τ := ex_sem hd rfl rfl rfl (by subst hp; simp only [qm_sem, qm_iL, hl]) k
theorem ex_iload_n {i : Fin 4} {x : Int32} (hd : decode mi.2.1 pc = .ok (.iload_n i, 1)) (hp : pc + 1 = q) (hl : ls[(i : Nat)]? = some (some (.int x))) (k : Ex lay d mi q ls (.int x :: st) σ v τ) : Ex lay d mi pc ls (st) σ v τ := ex_sem hd rfl rfl rfl (by subst hp; simp only [qm_sem, qm_iL, hl]) k
theorem ex_lload {i : Nat} {x : Int64} (hd : decode mi.2.1 pc = .ok (.lload i, 2)) (hp : pc + 2 = q) (hl : ls[i]? = some (some (.long x))) (k : Ex lay d mi q ls (.long x :: st) σ v τ) : Ex lay d mi pc ls (st) σ v τ := ex_sem hd rfl rfl rfl (by subst hp; simp only [qm_sem, qm_lL, hl]) k
theorem ex_lload_n {i : Fin 4} {x : Int64} (hd : decode mi.2.1 pc = .ok (.lload_n i, 1)) (hp : pc + 1 = q) (hl : ls[(i : Nat)]? = some (some (.long x))) (k : Ex lay d mi q ls (.long x :: st) σ v τ) : Ex lay d mi pc ls (st) σ v τ := ex_sem hd rfl rfl rfl (by subst hp; simp only [qm_sem, qm_lL, hl]) k
theorem ex_aload {i : Nat} {x : Nat} (hd : decode mi.2.1 pc = .ok (.aload i, 2)) (hp : pc + 2 = q) (hl : ls[i]? = some (some (.ref x))) (k : Ex lay d mi q ls (.ref x :: st) σ v τ) : Ex lay d mi pc ls (st) σ v τ := ex_sem hd rfl rfl rfl (by subst hp; simp only [qm_sem, qm_aL, hl]) k
theorem ex_aload_n {i : Fin 4} {x : Nat} (hd : decode mi.2.1 pc = .ok (.aload_n i, 1)) (hp : pc + 1 = q) (hl : ls[(i : Nat)]? = some (some (.ref x))) (k : Ex lay d mi q ls (.ref x :: st) σ v τ) : Ex lay d mi pc ls (st) σ v τ := ex_sem hd rfl rfl rfl (by subst hp; simp only [qm_sem, qm_aL, hl]) k
theorem ex_istore {i : Nat} {x : Int32} {ls' : qm_LS} (hd : decode mi.2.1 pc = .ok (.istore i, 2)) (hp : pc + 2 = q) (hi : i < ls.length) (hf : qm_free ls i = true) (hl : ls.set i (some (.int x)) = ls') (k : Ex lay d mi q ls' (st) σ v τ) : Ex lay d mi pc ls (.int x :: st) σ v τ := ex_sem hd rfl rfl rfl (by subst hp; subst hl; simp only [qm_sem, qm_iS]; rw [if_pos ⟨hi, hf⟩]) k
theorem ex_istore_n {i : Fin 4} {x : Int32} {ls' : qm_LS} (hd : decode mi.2.1 pc = .ok (.istore_n i, 1)) (hp : pc + 1 = q) (hi : (i : Nat) < ls.length) (hf : qm_free ls (i : Nat) = true) (hl : ls.set (i : Nat) (some (.int x)) = ls') (k : Ex lay d mi q ls' (st) σ v τ) : Ex lay d mi pc ls (.int x :: st) σ v τ := ex_sem hd rfl rfl rfl (by subst hp; subst hl; simp only [qm_sem, qm_iS]; rw [if_pos ⟨hi, hf⟩]) k
theorem ex_astore {i : Nat} {x : Nat} {ls' : qm_LS} (hd : decode mi.2.1 pc = .ok (.astore i, 2)) (hp : pc + 2 = q) (hi : i < ls.length) (hf : qm_free ls i = true) (hl : ls.set i (some (.ref x)) = ls') (k : Ex lay d mi q ls' (st) σ v τ) : Ex lay d mi pc ls (.ref x :: st) σ v τ := ex_sem hd rfl rfl rfl (by subst hp; subst hl; simp only [qm_sem, qm_aS]; rw [if_pos ⟨hi, hf⟩]) k
theorem ex_astore_n {i : Fin 4} {x : Nat} {ls' : qm_LS} (hd : decode mi.2.1 pc = .ok (.astore_n i, 1)) (hp : pc + 1 = q) (hi : (i : Nat) < ls.length) (hf : qm_free ls (i : Nat) = true) (hl : ls.set (i : Nat) (some (.ref x)) = ls') (k : Ex lay d mi q ls' (st) σ v τ) : Ex lay d mi pc ls (.ref x :: st) σ v τ := ex_sem hd rfl rfl rfl (by subst hp; subst hl; simp only [qm_sem, qm_aS]; rw [if_pos ⟨hi, hf⟩]) k
theorem ex_lstore {i : Nat} {x : Int64} {ls' : qm_LS} (hd : decode mi.2.1 pc = .ok (.lstore i, 2)) (hp : pc + 2 = q) (hi : i + 1 < ls.length) (hf : qm_free ls i = true) (hl : (ls.set i (some (.long x))).set (i + 1) none = ls') (k : Ex lay d mi q ls' (st) σ v τ) : Ex lay d mi pc ls (.long x :: st) σ v τ := ex_sem hd rfl rfl rfl (by subst hp; subst hl; simp only [qm_sem, qm_lS]; rw [if_pos ⟨hi, hf⟩]) k
theorem ex_lstore_n {i : Fin 4} {x : Int64} {ls' : qm_LS} (hd : decode mi.2.1 pc = .ok (.lstore_n i, 1)) (hp : pc + 1 = q) (hi : (i : Nat) + 1 < ls.length) (hf : qm_free ls (i : Nat) = true) (hl : (ls.set (i : Nat) (some (.long x))).set ((i : Nat) + 1) none = ls') (k : Ex lay d mi q ls' (st) σ v τ) : Ex lay d mi pc ls (.long x :: st) σ v τ := ex_sem hd rfl rfl rfl (by subst hp; subst hl; simp only [qm_sem, qm_lS]; rw [if_pos ⟨hi, hf⟩]) k
theorem ex_iinc {i : Nat} {n : Int} {x y : Int32} {ls' : qm_LS} (hd : decode mi.2.1 pc = .ok (.iinc i n, 3)) (hp : pc + 3 = q) (hg : ls[i]? = some (some (.int x))) (hf : qm_free ls i = true) (hy : x + Int32.ofInt n = y) (hl : ls.set i (some (.int y)) = ls') (k : Ex lay d mi q ls' (st) σ v τ) : Ex lay d mi pc ls (st) σ v τ := ex_sem hd rfl rfl rfl (by subst hp; subst hl; subst hy; simp only [qm_sem, qm_inc, hg]; rw [if_pos hf]) k
theorem ex_iadd {x y z : Int32} (hd : decode mi.2.1 pc = .ok (.iadd, 1)) (hp : pc + 1 = q) (hz : x + y = z) (k : Ex lay d mi q ls (.int z :: st) σ v τ) : Ex lay d mi pc ls (.int y :: .int x :: st) σ v τ := ex_sem hd rfl rfl rfl (by subst hp; subst hz; rfl) k
theorem ex_isub {x y z : Int32} (hd : decode mi.2.1 pc = .ok (.isub, 1)) (hp : pc + 1 = q) (hz : x - y = z) (k : Ex lay d mi q ls (.int z :: st) σ v τ) : Ex lay d mi pc ls (.int y :: .int x :: st) σ v τ := ex_sem hd rfl rfl rfl (by subst hp; subst hz; rfl) k
theorem ex_imul {x y z : Int32} (hd : decode mi.2.1 pc = .ok (.imul, 1)) (hp : pc + 1 = q) (hz : x * y = z) (k : Ex lay d mi q ls (.int z :: st) σ v τ) : Ex lay d mi pc ls (.int y :: .int x :: st) σ v τ := ex_sem hd rfl rfl rfl (by subst hp; subst hz; rfl) k
theorem ex_iand {x y z : Int32} (hd : decode mi.2.1 pc = .ok (.iand, 1)) (hp : pc + 1 = q) (hz : x &&& y = z) (k : Ex lay d mi q ls (.int z :: st) σ v τ) : Ex lay d mi pc ls (.int y :: .int x :: st) σ v τ := ex_sem hd rfl rfl rfl (by subst hp; subst hz; rfl) k
theorem ex_ior {x y z : Int32} (hd : decode mi.2.1 pc = .ok (.ior, 1)) (hp : pc + 1 = q) (hz : x ||| y = z) (k : Ex lay d mi q ls (.int z :: st) σ v τ) : Ex lay d mi pc ls (.int y :: .int x :: st) σ v τ := ex_sem hd rfl rfl rfl (by subst hp; subst hz; rfl) k
theorem ex_ixor {x y z : Int32} (hd : decode mi.2.1 pc = .ok (.ixor, 1)) (hp : pc + 1 = q) (hz : x ^^^ y = z) (k : Ex lay d mi q ls (.int z :: st) σ v τ) : Ex lay d mi pc ls (.int y :: .int x :: st) σ v τ := ex_sem hd rfl rfl rfl (by subst hp; subst hz; rfl) k
theorem ex_ishl {x y z : Int32} (hd : decode mi.2.1 pc = .ok (.ishl, 1)) (hp : pc + 1 = q) (hz : x <<< (y &&& 31) = z) (k : Ex lay d mi q ls (.int z :: st) σ v τ) : Ex lay d mi pc ls (.int y :: .int x :: st) σ v τ := ex_sem hd rfl rfl rfl (by subst hp; subst hz; rfl) k
theorem ex_ishr {x y z : Int32} (hd : decode mi.2.1 pc = .ok (.ishr, 1)) (hp : pc + 1 = q) (hz : x >>> (y &&& 31) = z) (k : Ex lay d mi q ls (.int z :: st) σ v τ) : Ex lay d mi pc ls (.int y :: .int x :: st) σ v τ := ex_sem hd rfl rfl rfl (by subst hp; subst hz; rfl) k
theorem ex_iushr {x y z : Int32} (hd : decode mi.2.1 pc = .ok (.iushr, 1)) (hp : pc + 1 = q) (hz : (x.toUInt32 >>> (y.toUInt32 &&& Int32.toUInt32 31)).toInt32 = z) (k : Ex lay d mi q ls (.int z :: st) σ v τ) : Ex lay d mi pc ls (.int y :: .int x :: st) σ v τ := ex_sem hd rfl rfl rfl (by subst hp; subst hz; rfl) k
theorem ex_idiv {x y z : Int32} (hd : decode mi.2.1 pc = .ok (.idiv, 1)) (hp : pc + 1 = q) (h0 : ¬ y = 0) (hz : x / y = z) (k : Ex lay d mi q ls (.int z :: st) σ v τ) : Ex lay d mi pc ls (.int y :: .int x :: st) σ v τ := ex_sem hd rfl rfl rfl (by subst hp; subst hz; simp only [qm_sem, qm_bd]; rw [if_neg h0]) k
theorem ex_irem {x y z : Int32} (hd : decode mi.2.1 pc = .ok (.irem, 1)) (hp : pc + 1 = q) (h0 : ¬ y = 0) (hz : x - x / y * y = z) (k : Ex lay d mi q ls (.int z :: st) σ v τ) : Ex lay d mi pc ls (.int y :: .int x :: st) σ v τ := ex_sem hd rfl rfl rfl (by subst hp; subst hz; simp only [qm_sem, qm_bd]; rw [if_neg h0]) k
theorem ex_ineg {x z : Int32} (hd : decode mi.2.1 pc = .ok (.ineg, 1)) (hp : pc + 1 = q) (hz : -x = z) (k : Ex lay d mi q ls (.int z :: st) σ v τ) : Ex lay d mi pc ls (.int x :: st) σ v τ := ex_sem hd rfl rfl rfl (by subst hp; subst hz; rfl) k
theorem ex_i2b {x z : Int32} (hd : decode mi.2.1 pc = .ok (.i2b, 1)) (hp : pc + 1 = q) (hz : x.toInt8.toInt32 = z) (k : Ex lay d mi q ls (.int z :: st) σ v τ) : Ex lay d mi pc ls (.int x :: st) σ v τ := ex_sem hd rfl rfl rfl (by subst hp; subst hz; rfl) k
theorem ex_i2s {x z : Int32} (hd : decode mi.2.1 pc = .ok (.i2s, 1)) (hp : pc + 1 = q) (hz : x.toInt16.toInt32 = z) (k : Ex lay d mi q ls (.int z :: st) σ v τ) : Ex lay d mi pc ls (.int x :: st) σ v τ := ex_sem hd rfl rfl rfl (by subst hp; subst hz; rfl) k
theorem ex_ladd {x y z : Int64} (hd : decode mi.2.1 pc = .ok (.ladd, 1)) (hp : pc + 1 = q) (hz : x + y = z) (k : Ex lay d mi q ls (.long z :: st) σ v τ) : Ex lay d mi pc ls (.long y :: .long x :: st) σ v τ := ex_sem hd rfl rfl rfl (by subst hp; subst hz; rfl) k
theorem ex_lmul {x y z : Int64} (hd : decode mi.2.1 pc = .ok (.lmul, 1)) (hp : pc + 1 = q) (hz : x * y = z) (k : Ex lay d mi q ls (.long z :: st) σ v τ) : Ex lay d mi pc ls (.long y :: .long x :: st) σ v τ := ex_sem hd rfl rfl rfl (by subst hp; subst hz; rfl) k
theorem ex_ldiv {x y z : Int64} (hd : decode mi.2.1 pc = .ok (.ldiv, 1)) (hp : pc + 1 = q) (h0 : ¬ y = 0) (hz : x / y = z) (k : Ex lay d mi q ls (.long z :: st) σ v τ) : Ex lay d mi pc ls (.long y :: .long x :: st) σ v τ := ex_sem hd rfl rfl rfl (by subst hp; subst hz; simp only [qm_sem, qm_lbd]; rw [if_neg h0]) k
theorem ex_lrem {x y z : Int64} (hd : decode mi.2.1 pc = .ok (.lrem, 1)) (hp : pc + 1 = q) (h0 : ¬ y = 0) (hz : x - x / y * y = z) (k : Ex lay d mi q ls (.long z :: st) σ v τ) : Ex lay d mi pc ls (.long y :: .long x :: st) σ v τ := ex_sem hd rfl rfl rfl (by subst hp; subst hz; simp only [qm_sem, qm_lbd]; rw [if_neg h0]) k
theorem ex_lcmp {x y : Int64} {z : Int32} (hd : decode mi.2.1 pc = .ok (.lcmp, 1)) (hp : pc + 1 = q) (hz : lg_cmp x y = z) (k : Ex lay d mi q ls (.int z :: st) σ v τ) : Ex lay d mi pc ls (.long y :: .long x :: st) σ v τ := ex_sem hd rfl rfl rfl (by subst hp; subst hz; rfl) k
theorem ex_i2l {x : Int32} {z : Int64} (hd : decode mi.2.1 pc = .ok (.i2l, 1)) (hp : pc + 1 = q) (hz : x.toInt64 = z) (k : Ex lay d mi q ls (.long z :: st) σ v τ) : Ex lay d mi pc ls (.int x :: st) σ v τ := ex_sem hd rfl rfl rfl (by subst hp; subst hz; rfl) k
theorem ex_l2i {x : Int64} {z : Int32} (hd : decode mi.2.1 pc = .ok (.l2i, 1)) (hp : pc + 1 = q) (hz : x.toInt32 = z) (k : Ex lay d mi q ls (.int z :: st) σ v τ) : Ex lay d mi pc ls (.long x :: st) σ v τ := ex_sem hd rfl rfl rfl (by subst hp; subst hz; rfl) k
theorem ex_dup {w : Value} (hd : decode mi.2.1 pc = .ok (.dup, 1)) (hp : pc + 1 = q) (hw : w.category = 1) (k : Ex lay d mi q ls (w :: w :: st) σ v τ) : Ex lay d mi pc ls (w :: st) σ v τ := ex_sem hd rfl rfl rfl (by subst hp; simp only [qm_sem]; rw [if_pos hw]) k
theorem ex_dup2 {w u : Value} (hd : decode mi.2.1 pc = .ok (.dup2, 1)) (hp : pc + 1 = q) (hw : w.category = 1) (hu : u.category = 1) (k : Ex lay d mi q ls (w :: u :: w :: u :: st) σ v τ) : Ex lay d mi pc ls (w :: u :: st) σ v τ := ex_sem hd rfl rfl rfl (by subst hp; simp only [qm_sem]; rw [if_pos ⟨hw, hu⟩]) k
theorem ex_pop {w : Value} (hd : decode mi.2.1 pc = .ok (.pop, 1)) (hp : pc + 1 = q) (hw : w.category = 1) (k : Ex lay d mi q ls (st) σ v τ) : Ex lay d mi pc ls (w :: st) σ v τ := ex_sem hd rfl rfl rfl (by subst hp; simp only [qm_sem]; rw [if_pos hw]) k
theorem ex_getI {i a ci k fl s : Nat} {fs : List (Nat ⊕ Nat)} {x : Int32} (hd : decode mi.2.1 pc = .ok (.getfield i, 3)) (hp : pc + 3 = q) (hpo : qm_pool mi.2.2.2.2.1 i = some (.inl (ci, k, fl))) (hla : lay[a]? = some (.inl (ci, fs))) (hf : fs[k]? = some (.inl s)) (hx : qm_rI σ s = x) (k : Ex lay d mi q ls (.int x :: st) σ v τ) : Ex lay d mi pc ls (.ref a :: st) σ v τ := ex_sem hd rfl rfl rfl (by subst hp; subst hx; simp only [qm_sem, hpo, qm_get, hla, hf]; rfl) k
theorem ex_getR {i a ci k fl b : Nat} {fs : List (Nat ⊕ Nat)} (hd : decode mi.2.1 pc = .ok (.getfield i, 3)) (hp : pc + 3 = q) (hpo : qm_pool mi.2.2.2.2.1 i = some (.inl (ci, k, fl))) (hla : lay[a]? = some (.inl (ci, fs))) (hf : fs[k]? = some (.inr b)) (k : Ex lay d mi q ls (.ref b :: st) σ v τ) : Ex lay d mi pc ls (.ref a :: st) σ v τ := ex_sem hd rfl rfl rfl (by subst hp; simp only [qm_sem, hpo, qm_get, hla, hf]; rfl) k
theorem ex_put {i a ci k fl s : Nat} {fs : List (Nat ⊕ Nat)} {x : Int32} {σ' : qm_St} (hd : decode mi.2.1 pc = .ok (.putfield i, 3)) (hp : pc + 3 = q) (hpo : qm_pool mi.2.2.2.2.1 i = some (.inl (ci, k, fl))) (hla : lay[a]? = some (.inl (ci, fs))) (hf : fs[k]? = some (.inl s)) (hfl : fl = 0 ∨ (fl = 1 ∧ (x = 0 ∨ x = 1))) (hs : qm_wI σ s x = σ') (k : Ex lay d mi q ls (st) σ' v τ) : Ex lay d mi pc ls (.int x :: .ref a :: st) σ v τ := ex_sem hd rfl rfl rfl (by subst hp; subst hs; simp only [qm_sem, hpo, qm_put, hla, hf]; rw [if_pos ⟨trivial, hfl⟩]) k
theorem ex_iaload {i : Int32} {a n j k : Nat} {x : Int32} (hd : decode mi.2.1 pc = .ok (.iaload, 1)) (hp : pc + 1 = q) (hla : lay[a]? = some (.inr (.inl (n, j)))) (hi : i = nI k) (hk : k < n) (hn : n < 2 ^ 31) (hx : qm_rF σ j k = x) (k : Ex lay d mi q ls (.int x :: st) σ v τ) : Ex lay d mi pc ls (.int i :: .ref a :: st) σ v τ := ex_sem hd rfl rfl rfl (by subst hp; subst hx; subst hi; simp only [qm_sem, qm_ial, hla]; rw [if_neg (nI_in hk hn), nI_clamp (Nat.lt_trans hk hn)]) k
theorem ex_iastore {i : Int32} {a n j k : Nat} {x : Int32} {σ' : qm_St} (hd : decode mi.2.1 pc = .ok (.iastore, 1)) (hp : pc + 1 = q) (hla : lay[a]? = some (.inr (.inl (n, j)))) (hi : i = nI k) (hk : k < n) (hn : n < 2 ^ 31) (hs : qm_wF σ j k x = σ') (k : Ex lay d mi q ls (st) σ' v τ) : Ex lay d mi pc ls (.int x :: .int i :: .ref a :: st) σ v τ := ex_sem hd rfl rfl rfl (by subst hp; subst hs; subst hi; simp only [qm_sem, qm_ias, hla]; rw [if_neg (nI_in hk hn), nI_clamp (Nat.lt_trans hk hn)]) k
theorem ex_aaload {i : Int32} {a n b k r : Nat} (hd : decode mi.2.1 pc = .ok (.aaload, 1)) (hp : pc + 1 = q) (hla : lay[a]? = some (.inr (.inr (n, b)))) (hi : i = nI k) (hk : k < n) (hn : n < 2 ^ 31) (hr : b + k = r) (k : Ex lay d mi q ls (.ref r :: st) σ v τ) : Ex lay d mi pc ls (.int i :: .ref a :: st) σ v τ := ex_sem hd rfl rfl rfl (by subst hp; subst hr; subst hi; simp only [qm_sem, qm_aal, hla]; rw [if_neg (nI_in hk hn), nI_clamp (Nat.lt_trans hk hn)]) k
theorem ex_alen {a n j : Nat} {x : Int32} (hd : decode mi.2.1 pc = .ok (.arraylength, 1)) (hp : pc + 1 = q) (hla : lay[a]? = some (.inr (.inl (n, j)))) (hx : Int32.ofNat n = x) (k : Ex lay d mi q ls (.int x :: st) σ v τ) : Ex lay d mi pc ls (.ref a :: st) σ v τ := ex_sem hd rfl rfl rfl (by subst hp; subst hx; simp only [qm_sem, qm_aln, hla]) k
theorem ex_goto {off : Int} (hd : decode mi.2.1 pc = .ok (.goto off, 3)) (hq : (pc : Int) + off = (q : Int)) (k : Ex lay d mi q ls st σ v τ) : Ex lay d mi pc ls st σ v τ := ex_sem hd rfl rfl rfl (by simp only [qm_sem, qm_jmp, hq]; rw [if_pos (Int.natCast_nonneg q), Int.toNat_natCast]) k
theorem ex_if_eq {off : Int} {q2 : Nat} {x : Int32} (hd : decode mi.2.1 pc = .ok (.ifCond .eq off, 3)) (hq : (pc : Int) + off = (q : Int)) (hq2 : pc + 3 = q2) (kt : x = 0 → Ex lay d mi q ls st σ v τ) (kf : ¬ (x = 0) → Ex lay d mi q2 ls st σ v τ) : Ex lay d mi pc ls (.int x :: st) σ v τ := by
  subst hq2
  by_cases h : x = 0
  · exact ex_sem hd rfl rfl rfl (by simp only [qm_sem, qm_if, hq]; rw [if_pos (Int.natCast_nonneg q), if_pos (show qm_c1 .eq x = true from decide_eq_true h), Int.toNat_natCast]) (kt h)
  · exact ex_sem hd rfl rfl rfl (by simp only [qm_sem, qm_if, hq]; rw [if_pos (Int.natCast_nonneg q), if_neg (show ¬ qm_c1 .eq x = true from fun z => h (of_decide_eq_true z))]) (kf h)
theorem ex_if_ne {off : Int} {q2 : Nat} {x : Int32} (hd : decode mi.2.1 pc = .ok (.ifCond .ne off, 3)) (hq : (pc : Int) + off = (q : Int)) (hq2 : pc + 3 = q2) (kt : ¬ x = 0 → Ex lay d mi q ls st σ v τ) (kf : ¬ (¬ x = 0) → Ex lay d mi q2 ls st σ v τ) : Ex lay d mi pc ls (.int x :: st) σ v τ := by
  subst hq2
  by_cases h : ¬ x = 0
  · exact ex_sem hd rfl rfl rfl (by simp only [qm_sem, qm_if, hq]; rw [if_pos (Int.natCast_nonneg q), if_pos (show qm_c1 .ne x = true from decide_eq_true h), Int.toNat_natCast]) (kt h)
  · exact ex_sem hd rfl rfl rfl (by simp only [qm_sem, qm_if, hq]; rw [if_pos (Int.natCast_nonneg q), if_neg (show ¬ qm_c1 .ne x = true from fun z => h (of_decide_eq_true z))]) (kf h)
theorem ex_if_lt {off : Int} {q2 : Nat} {x : Int32} (hd : decode mi.2.1 pc = .ok (.ifCond .lt off, 3)) (hq : (pc : Int) + off = (q : Int)) (hq2 : pc + 3 = q2) (kt : x < 0 → Ex lay d mi q ls st σ v τ) (kf : ¬ (x < 0) → Ex lay d mi q2 ls st σ v τ) : Ex lay d mi pc ls (.int x :: st) σ v τ := by
  subst hq2
  by_cases h : x < 0
  · exact ex_sem hd rfl rfl rfl (by simp only [qm_sem, qm_if, hq]; rw [if_pos (Int.natCast_nonneg q), if_pos (show qm_c1 .lt x = true from decide_eq_true h), Int.toNat_natCast]) (kt h)
  · exact ex_sem hd rfl rfl rfl (by simp only [qm_sem, qm_if, hq]; rw [if_pos (Int.natCast_nonneg q), if_neg (show ¬ qm_c1 .lt x = true from fun z => h (of_decide_eq_true z))]) (kf h)
theorem ex_if_ge {off : Int} {q2 : Nat} {x : Int32} (hd : decode mi.2.1 pc = .ok (.ifCond .ge off, 3)) (hq : (pc : Int) + off = (q : Int)) (hq2 : pc + 3 = q2) (kt : 0 ≤ x → Ex lay d mi q ls st σ v τ) (kf : ¬ (0 ≤ x) → Ex lay d mi q2 ls st σ v τ) : Ex lay d mi pc ls (.int x :: st) σ v τ := by
  subst hq2
  by_cases h : 0 ≤ x
  · exact ex_sem hd rfl rfl rfl (by simp only [qm_sem, qm_if, hq]; rw [if_pos (Int.natCast_nonneg q), if_pos (show qm_c1 .ge x = true from decide_eq_true h), Int.toNat_natCast]) (kt h)
  · exact ex_sem hd rfl rfl rfl (by simp only [qm_sem, qm_if, hq]; rw [if_pos (Int.natCast_nonneg q), if_neg (show ¬ qm_c1 .ge x = true from fun z => h (of_decide_eq_true z))]) (kf h)
theorem ex_if_gt {off : Int} {q2 : Nat} {x : Int32} (hd : decode mi.2.1 pc = .ok (.ifCond .gt off, 3)) (hq : (pc : Int) + off = (q : Int)) (hq2 : pc + 3 = q2) (kt : 0 < x → Ex lay d mi q ls st σ v τ) (kf : ¬ (0 < x) → Ex lay d mi q2 ls st σ v τ) : Ex lay d mi pc ls (.int x :: st) σ v τ := by
  subst hq2
  by_cases h : 0 < x
  · exact ex_sem hd rfl rfl rfl (by simp only [qm_sem, qm_if, hq]; rw [if_pos (Int.natCast_nonneg q), if_pos (show qm_c1 .gt x = true from decide_eq_true h), Int.toNat_natCast]) (kt h)
  · exact ex_sem hd rfl rfl rfl (by simp only [qm_sem, qm_if, hq]; rw [if_pos (Int.natCast_nonneg q), if_neg (show ¬ qm_c1 .gt x = true from fun z => h (of_decide_eq_true z))]) (kf h)
theorem ex_if_le {off : Int} {q2 : Nat} {x : Int32} (hd : decode mi.2.1 pc = .ok (.ifCond .le off, 3)) (hq : (pc : Int) + off = (q : Int)) (hq2 : pc + 3 = q2) (kt : x ≤ 0 → Ex lay d mi q ls st σ v τ) (kf : ¬ (x ≤ 0) → Ex lay d mi q2 ls st σ v τ) : Ex lay d mi pc ls (.int x :: st) σ v τ := by
  subst hq2
  by_cases h : x ≤ 0
  · exact ex_sem hd rfl rfl rfl (by simp only [qm_sem, qm_if, hq]; rw [if_pos (Int.natCast_nonneg q), if_pos (show qm_c1 .le x = true from decide_eq_true h), Int.toNat_natCast]) (kt h)
  · exact ex_sem hd rfl rfl rfl (by simp only [qm_sem, qm_if, hq]; rw [if_pos (Int.natCast_nonneg q), if_neg (show ¬ qm_c1 .le x = true from fun z => h (of_decide_eq_true z))]) (kf h)
theorem ex_icmp_eq {off : Int} {q2 : Nat} {x y : Int32} (hd : decode mi.2.1 pc = .ok (.if_icmp .eq off, 3)) (hq : (pc : Int) + off = (q : Int)) (hq2 : pc + 3 = q2) (kt : x = y → Ex lay d mi q ls st σ v τ) (kf : ¬ (x = y) → Ex lay d mi q2 ls st σ v τ) : Ex lay d mi pc ls (.int y :: .int x :: st) σ v τ := by
  subst hq2
  by_cases h : x = y
  · exact ex_sem hd rfl rfl rfl (by simp only [qm_sem, qm_if2, hq]; rw [if_pos (Int.natCast_nonneg q), if_pos (show qm_c2 .eq x y = true from decide_eq_true h), Int.toNat_natCast]) (kt h)
  · exact ex_sem hd rfl rfl rfl (by simp only [qm_sem, qm_if2, hq]; rw [if_pos (Int.natCast_nonneg q), if_neg (show ¬ qm_c2 .eq x y = true from fun z => h (of_decide_eq_true z))]) (kf h)
theorem ex_icmp_ne {off : Int} {q2 : Nat} {x y : Int32} (hd : decode mi.2.1 pc = .ok (.if_icmp .ne off, 3)) (hq : (pc : Int) + off = (q : Int)) (hq2 : pc + 3 = q2) (kt : ¬ x = y → Ex lay d mi q ls st σ v τ) (kf : ¬ (¬ x = y) → Ex lay d mi q2 ls st σ v τ) : Ex lay d mi pc ls (.int y :: .int x :: st) σ v τ := by
  subst hq2
  by_cases h : ¬ x = y
  · exact ex_sem hd rfl rfl rfl (by simp only [qm_sem, qm_if2, hq]; rw [if_pos (Int.natCast_nonneg q), if_pos (show qm_c2 .ne x y = true from decide_eq_true h), Int.toNat_natCast]) (kt h)
  · exact ex_sem hd rfl rfl rfl (by simp only [qm_sem, qm_if2, hq]; rw [if_pos (Int.natCast_nonneg q), if_neg (show ¬ qm_c2 .ne x y = true from fun z => h (of_decide_eq_true z))]) (kf h)
theorem ex_icmp_lt {off : Int} {q2 : Nat} {x y : Int32} (hd : decode mi.2.1 pc = .ok (.if_icmp .lt off, 3)) (hq : (pc : Int) + off = (q : Int)) (hq2 : pc + 3 = q2) (kt : x < y → Ex lay d mi q ls st σ v τ) (kf : ¬ (x < y) → Ex lay d mi q2 ls st σ v τ) : Ex lay d mi pc ls (.int y :: .int x :: st) σ v τ := by
  subst hq2
  by_cases h : x < y
  · exact ex_sem hd rfl rfl rfl (by simp only [qm_sem, qm_if2, hq]; rw [if_pos (Int.natCast_nonneg q), if_pos (show qm_c2 .lt x y = true from decide_eq_true h), Int.toNat_natCast]) (kt h)
  · exact ex_sem hd rfl rfl rfl (by simp only [qm_sem, qm_if2, hq]; rw [if_pos (Int.natCast_nonneg q), if_neg (show ¬ qm_c2 .lt x y = true from fun z => h (of_decide_eq_true z))]) (kf h)
theorem ex_icmp_ge {off : Int} {q2 : Nat} {x y : Int32} (hd : decode mi.2.1 pc = .ok (.if_icmp .ge off, 3)) (hq : (pc : Int) + off = (q : Int)) (hq2 : pc + 3 = q2) (kt : y ≤ x → Ex lay d mi q ls st σ v τ) (kf : ¬ (y ≤ x) → Ex lay d mi q2 ls st σ v τ) : Ex lay d mi pc ls (.int y :: .int x :: st) σ v τ := by
  subst hq2
  by_cases h : y ≤ x
  · exact ex_sem hd rfl rfl rfl (by simp only [qm_sem, qm_if2, hq]; rw [if_pos (Int.natCast_nonneg q), if_pos (show qm_c2 .ge x y = true from decide_eq_true h), Int.toNat_natCast]) (kt h)
  · exact ex_sem hd rfl rfl rfl (by simp only [qm_sem, qm_if2, hq]; rw [if_pos (Int.natCast_nonneg q), if_neg (show ¬ qm_c2 .ge x y = true from fun z => h (of_decide_eq_true z))]) (kf h)
theorem ex_icmp_gt {off : Int} {q2 : Nat} {x y : Int32} (hd : decode mi.2.1 pc = .ok (.if_icmp .gt off, 3)) (hq : (pc : Int) + off = (q : Int)) (hq2 : pc + 3 = q2) (kt : y < x → Ex lay d mi q ls st σ v τ) (kf : ¬ (y < x) → Ex lay d mi q2 ls st σ v τ) : Ex lay d mi pc ls (.int y :: .int x :: st) σ v τ := by
  subst hq2
  by_cases h : y < x
  · exact ex_sem hd rfl rfl rfl (by simp only [qm_sem, qm_if2, hq]; rw [if_pos (Int.natCast_nonneg q), if_pos (show qm_c2 .gt x y = true from decide_eq_true h), Int.toNat_natCast]) (kt h)
  · exact ex_sem hd rfl rfl rfl (by simp only [qm_sem, qm_if2, hq]; rw [if_pos (Int.natCast_nonneg q), if_neg (show ¬ qm_c2 .gt x y = true from fun z => h (of_decide_eq_true z))]) (kf h)
theorem ex_icmp_le {off : Int} {q2 : Nat} {x y : Int32} (hd : decode mi.2.1 pc = .ok (.if_icmp .le off, 3)) (hq : (pc : Int) + off = (q : Int)) (hq2 : pc + 3 = q2) (kt : x ≤ y → Ex lay d mi q ls st σ v τ) (kf : ¬ (x ≤ y) → Ex lay d mi q2 ls st σ v τ) : Ex lay d mi pc ls (.int y :: .int x :: st) σ v τ := by
  subst hq2
  by_cases h : x ≤ y
  · exact ex_sem hd rfl rfl rfl (by simp only [qm_sem, qm_if2, hq]; rw [if_pos (Int.natCast_nonneg q), if_pos (show qm_c2 .le x y = true from decide_eq_true h), Int.toNat_natCast]) (kt h)
  · exact ex_sem hd rfl rfl rfl (by simp only [qm_sem, qm_if2, hq]; rw [if_pos (Int.natCast_nonneg q), if_neg (show ¬ qm_c2 .le x y = true from fun z => h (of_decide_eq_true z))]) (kf h)
theorem ex_tswO {dflt lo hi : Int} {offs : Array Int} {len : Nat} {x : Int32} (hd : decode mi.2.1 pc = .ok (.tableswitch dflt lo hi offs, len)) (h : x.toInt < lo ∨ hi < x.toInt) (hq : (pc : Int) + dflt = (q : Int)) (k : Ex lay d mi q ls st σ v τ) : Ex lay d mi pc ls (.int x :: st) σ v τ := ex_sem hd rfl rfl rfl (by simp only [qm_sem, qm_tsw]; rw [if_pos h, qm_jmp, hq, if_pos (Int.natCast_nonneg q), Int.toNat_natCast]) k
theorem ex_tswI {dflt lo hi : Int} {offs : Array Int} {len : Nat} {x : Int32} {off : Int} (hd : decode mi.2.1 pc = .ok (.tableswitch dflt lo hi offs, len)) (h : ¬ (x.toInt < lo ∨ hi < x.toInt)) (ho : offs[(x.toInt - lo).toNat]? = some off) (hq : (pc : Int) + off = (q : Int)) (k : Ex lay d mi q ls st σ v τ) : Ex lay d mi pc ls (.int x :: st) σ v τ := ex_sem hd rfl rfl rfl (by simp only [qm_sem, qm_tsw]; rw [if_neg h, ho]; simp only [qm_jmp, hq]; rw [if_pos (Int.natCast_nonneg q), Int.toNat_natCast]) k
theorem ex_lsw {dflt : Int} {ps : Array (Int × Int)} {len : Nat} {x : Int32} {off : Int} (hd : decode mi.2.1 pc = .ok (.lookupswitch dflt ps, len)) (hs : (ps.toList.zip (ps.toList.drop 1)).all (fun (a, next) => a.1 < next.1) = true) (ho : Op.lookupswitch.offset ps.toList dflt x.toInt = off) (hq : (pc : Int) + off = (q : Int)) (k : Ex lay d mi q ls st σ v τ) : Ex lay d mi pc ls (.int x :: st) σ v τ := ex_sem hd rfl rfl rfl (by simp only [qm_sem, qm_lsw]; rw [if_pos hs, ho, qm_jmp, hq, if_pos (Int.natCast_nonneg q), Int.toNat_natCast]) k
theorem ex_min {i : Nat} {x y z : Int32} (hd : decode mi.2.1 pc = .ok (.invokestatic i, 3)) (hp : pc + 3 = q) (hpo : qm_pool mi.2.2.2.2.1 i = some (.inr (.inr (.inr (.inr 0))))) (hcat : qm_cat st ≤ 8) (hz : (if y < x then y else x) = z) (k : Ex lay d mi q ls (.int z :: st) σ v τ) : Ex lay d mi pc ls (.int y :: .int x :: st) σ v τ := ex_sem hd rfl rfl (by simp only [qm_call, hpo]) (by subst hp; subst hz; simp only [qm_sem, hpo, qm_lib]; rw [if_pos hcat]) k
theorem ex_max {i : Nat} {x y z : Int32} (hd : decode mi.2.1 pc = .ok (.invokestatic i, 3)) (hp : pc + 3 = q) (hpo : qm_pool mi.2.2.2.2.1 i = some (.inr (.inr (.inr (.inr 1))))) (hcat : qm_cat st ≤ 8) (hz : (if x < y then y else x) = z) (k : Ex lay d mi q ls (.int z :: st) σ v τ) : Ex lay d mi pc ls (.int y :: .int x :: st) σ v τ := ex_sem hd rfl rfl (by simp only [qm_call, hpo]) (by subst hp; subst hz; simp only [qm_sem, hpo, qm_lib]; rw [if_pos hcat]) k
theorem ex_copy {i : Nat} {a b n0 n1 j0 j1 sk dk nk : Nat} {sp dp n : Int32} {σ' : qm_St} (hd : decode mi.2.1 pc = .ok (.invokestatic i, 3)) (hp : pc + 3 = q) (hpo : qm_pool mi.2.2.2.2.1 i = some (.inr (.inr (.inr (.inr 2))))) (hla : lay[a]? = some (.inr (.inl (n0, j0)))) (hlb : lay[b]? = some (.inr (.inl (n1, j1)))) (h1 : sp = nI sk) (h2 : dp = nI dk) (h3 : n = nI nk) (h4 : sk + nk ≤ n0) (h5 : dk + nk ≤ n1) (hb : n0 < 2 ^ 31 ∧ n1 < 2 ^ 31) (hs : qm_wR σ j1 (va_cpy (σ.2 j0) (σ.2 j1) sk dk nk) = σ')
    (k : Ex lay d mi q ls [] σ' v τ) : Ex lay d mi pc ls [.int n, .int dp, .ref b, .int sp, .ref a] σ v τ := ex_sem hd rfl rfl (by simp only [qm_call, hpo]) (by
  subst hp; subst hs; subst h1; subst h2; subst h3
  simp only [qm_sem, hpo, qm_lib, hla, hlb]
  rw [nI_clamp (show sk < 2 ^ 31 by omega), nI_clamp (show dk < 2 ^ 31 by omega), nI_clamp (show nk < 2 ^ 31 by omega)]
  rw [if_neg]
  intro h
  rcases h with h | h | h | h | h
  · exact nI_pos (by omega) h
  · exact nI_pos (by omega) h
  · exact nI_pos (by omega) h
  · omega
  · omega) k
theorem ex_slen {i a : Nat} {t : List Int32} {x : Int32} (hd : decode mi.2.1 pc = .ok (.invokevirtual i, 3)) (hp : pc + 3 = q) (hpo : qm_pool mi.2.2.2.2.1 i = some (.inr (.inr (.inr (.inr 3))))) (ht : qm_sref a = some t) (hcat : qm_cat st ≤ 8) (hx : Int32.ofNat t.length = x) (k : Ex lay d mi q ls (.int x :: st) σ v τ) : Ex lay d mi pc ls (.ref a :: st) σ v τ := ex_sem hd rfl rfl (by unfold qm_call; dsimp only; rw [hpo]) (by
  subst hp; subst hx
  simp only [qm_sem, hpo, qm_sop, ht]
  rw [if_pos hcat]) k
theorem ex_scha {i a m : Nat} {t : List Int32} {j x : Int32} (hd : decode mi.2.1 pc = .ok (.invokevirtual i, 3)) (hp : pc + 3 = q) (hpo : qm_pool mi.2.2.2.2.1 i = some (.inr (.inr (.inr (.inr 4))))) (ht : qm_sref a = some t) (hj : j = nI m) (hm : m < t.length) (hl : t.length < 2 ^ 31) (hcat : qm_cat st ≤ 8) (hx : t.getD m 0 = x) (k : Ex lay d mi q ls (.int x :: st) σ v τ) : Ex lay d mi pc ls (.int j :: .ref a :: st) σ v τ := ex_sem hd rfl rfl (by unfold qm_call; dsimp only; rw [hpo]) (by
  subst hp; subst hx; subst hj
  simp only [qm_sem, hpo, qm_sop, ht]
  rw [if_pos ⟨nI_in hm hl, hcat⟩, nI_clamp (Nat.lt_trans hm hl)]) k
theorem ex_iret {x : Int32} (hd : decode mi.2.1 pc = .ok (.ireturn, 1)) (hr : mi.2.2.2.1 = some .int) (hv : some (.int x) = v) (ht : σ = τ) : Ex lay d mi pc ls [.int x] σ v τ := ex_end hd rfl (by rw [hr]; rfl) hv ht
theorem ex_zret {x : Int32} (hd : decode mi.2.1 pc = .ok (.ireturn, 1)) (hr : mi.2.2.2.1 = some .boolean) (hx : x = 0 ∨ x = 1) (hv : some (.int x) = v) (ht : σ = τ) : Ex lay d mi pc ls [.int x] σ v τ := ex_end hd rfl (by rw [hr]; simp only [qm_end]; rw [if_pos hx]) hv ht
theorem ex_lret {x : Int64} (hd : decode mi.2.1 pc = .ok (.lreturn, 1)) (hr : mi.2.2.2.1 = some .long) (hv : some (.long x) = v) (ht : σ = τ) : Ex lay d mi pc ls [.long x] σ v τ := ex_end hd rfl (by rw [hr]; rfl) hv ht
theorem ex_aret {x : Nat} {nm : String} (hd : decode mi.2.1 pc = .ok (.areturn, 1)) (hr : mi.2.2.2.1 = some (.object nm)) (hv : some (.ref x) = v) (ht : σ = τ) : Ex lay d mi pc ls [.ref x] σ v τ := ex_end hd rfl (by rw [hr]; rfl) hv ht
theorem ex_vret (hd : decode mi.2.1 pc = .ok (.return_, 1)) (hr : mi.2.2.2.1 = none) (hv : none = v) (ht : σ = τ) : Ex lay d mi pc ls [] σ v τ := ex_end hd rfl (by rw [hr]; rfl) hv ht
end EXS
