/-! ===== what a text says ===== -/
def sx_bin (c : Nat) (x y : Int32) : Int32 :=
  if c = 20007 then (if ¬ x = 0 ∨ ¬ y = 0 then 1 else 0) else if c = 20008 then (if ¬ x = 0 ∧ ¬ y = 0 then 1 else 0)
  else if c = 20060 then (if x < y then 1 else 0) else if c = 20061 then (if x = y then 1 else 0)
  else if c = 20043 then x + y else if c = 20045 then x - y else x * y
def sx_step (nm : Nat → Int32) (c : Nat) (p : Nat × (Nat → Int32)) : Nat × (Nat → Int32) :=
  if c < 10000 then (p.1 + 1, upd p.2 p.1 (nI c)) else if c < 20000 then (p.1 + 1, upd p.2 p.1 (nm (c - 10000)))
  else if c = 20009 then (p.1, upd p.2 (p.1 - 1) (if p.2 (p.1 - 1) = 0 then 1 else 0)) else if c = 20010 then (p.1, upd p.2 (p.1 - 1) (-(p.2 (p.1 - 1))))
  else (p.1 - 1, upd p.2 (p.1 - 2) (sx_bin c (p.2 (p.1 - 2)) (p.2 (p.1 - 1))))
def sx_run (nm : Nat → Int32) (f : Nat → Nat) (a : Nat) : Nat → Nat × (Nat → Int32)
  | 0 => (0, fun _ => 0)
  | n + 1 => sx_step nm (f (a + n)) (sx_run nm f a n)
def sx_nm (T : tn_T) (l : Nat) (c o : Int32) (j : Nat) : Int32 := if j = 0 then c else if j = 1 then nI l else if j = 2 then nI (tn_pc (tn_b T l)) else if j = 3 then o else if j = 4 then nI (tn_m T l) else nI (tn_L T)
def sx_v (T : tn_T) (X : gx_T) (part l : Nat) (c o : Int32) : Int32 := (sx_run (sx_nm T l c o) (gx_c X (tn_w T)) (gx_s X (tn_w T) part) (gx_s X (tn_w T) (part + 1) - gx_s X (tn_w T) part)).2 0
/-- what a part of the law says -/
def sx_says (T : tn_T) (X : gx_T) (part l : Nat) (c o : Int32) : Int32 := if part = 2 then (if sx_v T X part l c o = 0 then 0 else 1) else tn_wn (sx_v T X part l c o) 0 99
theorem gx_h_cs {c h h' : Nat} (e : gx_h c h = some h') : (c < 10000 ∧ h < 60 ∧ h' = h + 1) ∨ (∃ j, c = 10000 + j ∧ j < 6 ∧ h < 60 ∧ h' = h + 1) ∨ (c = 20009 ∧ ∃ g, h = g + 1 ∧ h' = g + 1) ∨ (c = 20010 ∧ ∃ g, h = g + 1 ∧ h' = g + 1) ∨ ((c = 20007 ∨ c = 20008 ∨ c = 20060 ∨ c = 20061 ∨ c = 20043 ∨ c = 20045 ∨ c = 20042) ∧ ∃ g, h = g + 2 ∧ h' = g + 1) := by
  unfold gx_h at e
  by_cases c1 : c < 10000
  · rw [if_pos c1] at e
    by_cases g : h < 60
    · rw [if_pos g] at e; exact Or.inl ⟨c1, g, (Option.some.inj e).symm⟩
    · rw [if_neg g] at e; cases e
  · rw [if_neg c1] at e
    by_cases c2 : c < 10006
    · rw [if_pos c2] at e
      by_cases g : h < 60
      · rw [if_pos g] at e; exact Or.inr (Or.inl ⟨c - 10000, by omega, by omega, g, (Option.some.inj e).symm⟩)
      · rw [if_neg g] at e; cases e
    · rw [if_neg c2] at e
      by_cases c3 : c = 20009 ∨ c = 20010
      · rw [if_pos c3] at e
        by_cases g : 1 ≤ h
        · rw [if_pos g] at e
          have e2 := Option.some.inj e
          rcases c3 with c3 | c3
          · exact Or.inr (Or.inr (Or.inl ⟨c3, h - 1, by omega, by omega⟩))
          · exact Or.inr (Or.inr (Or.inr (Or.inl ⟨c3, h - 1, by omega, by omega⟩)))
        · rw [if_neg g] at e; cases e
      · rw [if_neg c3] at e
        split at e
        · rename_i c4
          by_cases g : 2 ≤ h
          · rw [if_pos g] at e
            have e2 := Option.some.inj e
            exact Or.inr (Or.inr (Or.inr (Or.inr ⟨c4, h - 2, by omega, by omega⟩)))
          · rw [if_neg g] at e; cases e
        · cases e
theorem gx_hs_pre (f : Nat → Nat) (a : Nat) : ∀ n k h, k ≤ n → gx_hs f a n = some h → ∃ h', gx_hs f a k = some h'
  | 0, k, h, hk, e => by rw [show k = 0 by omega]; exact ⟨0, rfl⟩
  | n + 1, k, h, hk, e => by
    by_cases g : k = n + 1
    · rw [g]; exact ⟨h, e⟩
    · rw [gx_hs] at e
      cases e2 : gx_hs f a n with
      | none => rw [e2] at e; cases e
      | some h2 => exact gx_hs_pre f a n k h2 (by omega) e2
theorem gx_hs_run (nm : Nat → Int32) (f : Nat → Nat) (a : Nat) : ∀ n h, gx_hs f a n = some h → (sx_run nm f a n).1 = h ∧ h ≤ 60
  | 0, h, e => by rw [gx_hs] at e; exact ⟨Option.some.inj e, by have := Option.some.inj e; omega⟩
  | n + 1, h, e => by
    rw [gx_hs] at e
    cases e2 : gx_hs f a n with
    | none => rw [e2] at e; cases e
    | some h2 =>
      rw [e2] at e
      have e3 : gx_h (f (a + n)) h2 = some h := e
      obtain ⟨ih, ih2⟩ := gx_hs_run nm f a n h2 e2
      rw [sx_run, sx_step, ih]
      rcases gx_h_cs e3 with ⟨c1, c2, c3⟩ | ⟨j, c1, c2, c3, c4⟩ | ⟨c1, g, c2, c3⟩ | ⟨c1, g, c2, c3⟩ | ⟨c1, g, c2, c3⟩
      · rw [if_pos c1]; exact ⟨c3.symm, by omega⟩
      · rw [if_neg (by omega), if_pos (by omega)]; exact ⟨c4.symm, by omega⟩
      · rw [if_neg (by omega), if_neg (by omega), if_pos c1]; exact ⟨by show h2 = h; omega, by omega⟩
      · rw [if_neg (by omega), if_neg (by omega), if_neg (by omega), if_pos c1]; exact ⟨by show h2 = h; omega, by omega⟩
      · rw [if_neg (by omega), if_neg (by omega), if_neg (by omega), if_neg (by omega)]; exact ⟨by show h2 - 1 = h; omega, by omega⟩
theorem lay_cd {t : Nat} (ht : t < 6) : qm_lay[10 + t]? = some (.inr (.inl (160, 6 + t))) := by
  have : t = 0 ∨ t = 1 ∨ t = 2 ∨ t = 3 ∨ t = 4 ∨ t = 5 := by omega
  rcases this with rfl | rfl | rfl | rfl | rfl | rfl <;> rfl
theorem lay_st {t : Nat} (ht : t < 6) : qm_lay[16 + t]? = some (.inr (.inl (4, 12 + t))) := by
  have : t = 0 ∨ t = 1 ∨ t = 2 ∨ t = 3 ∨ t = 4 ∨ t = 5 := by omega
  rcases this with rfl | rfl | rfl | rfl | rfl | rfl <;> rfl
theorem upd_at {f : Nat → Int32} {k j : Nat} {x : Int32} : upd f k x j = if j = k then x else f j := rfl
/-- what stands on the stack (row j) -/
def KS (σ : qm_St) (j : Nat) (p : Nat × (Nat → Int32)) : Prop := ∀ i, i < p.1 → qm_rF σ j i = p.2 i
theorem KS.set {σ : qm_St} {j h : Nat} {s : Nat → Int32} (k : KS σ j (h, s)) (g : Nat) (v : Int32) (h' : Nat) (hh : h' ≤ h ∨ (h' = h + 1 ∧ g = h)) : KS (qm_wF σ j g v) j (h', upd s g v) := by
  intro i hi
  have hi' : i < h' := hi
  show qm_rF (qm_wF σ j g v) j i = upd s g v i
  rw [upd_at]
  by_cases e : i = g
  · rw [if_pos e, rF_eqi e]
  · rw [if_neg e, rF_ne (Or.inr e)]; exact k i (by show i < h; omega)
theorem tn_wn99 (v : Int32) : (if 0 < (if v < 99 then v else 99) then (if v < 99 then v else 99) else 0) = tn_wn v 0 99 := by
  unfold tn_wn
  by_cases h1 : v < 99
  · rw [if_pos h1, if_neg (show ¬ (99 : Int32) < v from Int32.lt_asymm h1)]
    by_cases h2 : 0 < v
    · rw [if_pos h2, if_neg (Int32.lt_asymm h2)]
    · rw [if_neg h2]
      by_cases h3 : v < 0
      · rw [if_pos h3]
      · rw [if_neg h3]
        exact Int32.le_antisymm (Int32.not_lt.mp h3) (Int32.not_lt.mp h2)
  · rw [if_neg h1, if_pos (show (0 : Int32) < 99 by decide)]
    have h99 : (99 : Int32) ≤ v := Int32.not_lt.mp h1
    rw [if_neg (show ¬ v < 0 from fun z => h1 (Int32.lt_trans z (by decide)))]
    by_cases h2 : 99 < v
    · rw [if_pos h2]
    · rw [if_neg h2]; exact Int32.le_antisymm h99 (Int32.not_lt.mp h2)

set_option maxHeartbeats 2000000 in
theorem c_binary {lay : List qm_LE} (σ : qm_St) (x y : Int32) {c : Nat} (hc : c = 20007 ∨ c = 20008 ∨ c = 20060 ∨ c = 20061 ∨ c = 20043 ∨ c = 20045 ∨ c = 20042) : Ok lay 0 mX6_binary [.int (nI c), .int x, .int y] σ (some (.int (sx_bin c x y))) σ := by
  rcases hc with rfl | rfl | rfl | rfl | rfl | rfl | rfl
  · refine Ok.of (ls := [some (.int 20007), some (.int x), some (.int y)]) (Nat.le_of_ble_eq_true rfl) rfl ?_
    refine ex_iload_n dX6_binary_0 rfl rfl ?_
    refine ex_sipush (x := 20000) dX6_binary_1 rfl rfl ?_
    refine ex_isub (z := 7) dX6_binary_4 rfl (by decide) ?_
    refine ex_lsw (q := 64) (off := 59) dX6_binary_5 (by decide) (by decide) rfl ?_
    refine ex_iload_n dX6_binary_64 rfl rfl ?_
    refine ex_if_ne (q := 72) (q2 := 68) dX6_binary_65 rfl rfl (fun h65 => ?_) (fun h65 => ?_)
    · refine ex_iconst (x := 1) dX6_binary_72 rfl rfl ?_
      refine ex_goto (q := 77) dX6_binary_73 rfl ?_
      exact ex_iret dX6_binary_77 rfl (by first | rfl | (simp_all [sx_bin]; done)) rfl
    · refine ex_iload_n dX6_binary_68 rfl rfl ?_
      refine ex_if_eq (q := 76) (q2 := 72) dX6_binary_69 rfl rfl (fun h69 => ?_) (fun h69 => ?_)
      · refine ex_iconst (x := 0) dX6_binary_76 rfl rfl ?_
        exact ex_iret dX6_binary_77 rfl (by first | rfl | (simp_all [sx_bin]; done)) rfl
      · refine ex_iconst (x := 1) dX6_binary_72 rfl rfl ?_
        refine ex_goto (q := 77) dX6_binary_73 rfl ?_
        exact ex_iret dX6_binary_77 rfl (by first | rfl | (simp_all [sx_bin]; done)) rfl
  · refine Ok.of (ls := [some (.int 20008), some (.int x), some (.int y)]) (Nat.le_of_ble_eq_true rfl) rfl ?_
    refine ex_iload_n dX6_binary_0 rfl rfl ?_
    refine ex_sipush (x := 20000) dX6_binary_1 rfl rfl ?_
    refine ex_isub (z := 8) dX6_binary_4 rfl (by decide) ?_
    refine ex_lsw (q := 78) (off := 73) dX6_binary_5 (by decide) (by decide) rfl ?_
    refine ex_iload_n dX6_binary_78 rfl rfl ?_
    refine ex_if_eq (q := 90) (q2 := 82) dX6_binary_79 rfl rfl (fun h79 => ?_) (fun h79 => ?_)
    · refine ex_iconst (x := 0) dX6_binary_90 rfl rfl ?_
      exact ex_iret dX6_binary_91 rfl (by first | rfl | (simp_all [sx_bin]; done)) rfl
    · refine ex_iload_n dX6_binary_82 rfl rfl ?_
      refine ex_if_eq (q := 90) (q2 := 86) dX6_binary_83 rfl rfl (fun h83 => ?_) (fun h83 => ?_)
      · refine ex_iconst (x := 0) dX6_binary_90 rfl rfl ?_
        exact ex_iret dX6_binary_91 rfl (by first | rfl | (simp_all [sx_bin]; done)) rfl
      · refine ex_iconst (x := 1) dX6_binary_86 rfl rfl ?_
        refine ex_goto (q := 91) dX6_binary_87 rfl ?_
        exact ex_iret dX6_binary_91 rfl (by first | rfl | (simp_all [sx_bin]; done)) rfl
  · refine Ok.of (ls := [some (.int 20060), some (.int x), some (.int y)]) (Nat.le_of_ble_eq_true rfl) rfl ?_
    refine ex_iload_n dX6_binary_0 rfl rfl ?_
    refine ex_sipush (x := 20000) dX6_binary_1 rfl rfl ?_
    refine ex_isub (z := 60) dX6_binary_4 rfl (by decide) ?_
    refine ex_lsw (q := 92) (off := 87) dX6_binary_5 (by decide) (by decide) rfl ?_
    refine ex_iload_n dX6_binary_92 rfl rfl ?_
    refine ex_iload_n dX6_binary_93 rfl rfl ?_
    refine ex_icmp_ge (q := 101) (q2 := 97) dX6_binary_94 rfl rfl (fun h94 => ?_) (fun h94 => ?_)
    · refine ex_iconst (x := 0) dX6_binary_101 rfl rfl ?_
      exact ex_iret dX6_binary_102 rfl (by first | rfl | (simp_all [sx_bin]; done)) rfl
    · refine ex_iconst (x := 1) dX6_binary_97 rfl rfl ?_
      refine ex_goto (q := 102) dX6_binary_98 rfl ?_
      exact ex_iret dX6_binary_102 rfl (by first | rfl | (simp_all [sx_bin]; done)) rfl
  · refine Ok.of (ls := [some (.int 20061), some (.int x), some (.int y)]) (Nat.le_of_ble_eq_true rfl) rfl ?_
    refine ex_iload_n dX6_binary_0 rfl rfl ?_
    refine ex_sipush (x := 20000) dX6_binary_1 rfl rfl ?_
    refine ex_isub (z := 61) dX6_binary_4 rfl (by decide) ?_
    refine ex_lsw (q := 103) (off := 98) dX6_binary_5 (by decide) (by decide) rfl ?_
    refine ex_iload_n dX6_binary_103 rfl rfl ?_
    refine ex_iload_n dX6_binary_104 rfl rfl ?_
    refine ex_icmp_ne (q := 112) (q2 := 108) dX6_binary_105 rfl rfl (fun h105 => ?_) (fun h105 => ?_)
    · refine ex_iconst (x := 0) dX6_binary_112 rfl rfl ?_
      exact ex_iret dX6_binary_113 rfl (by first | rfl | (simp_all [sx_bin]; done)) rfl
    · refine ex_iconst (x := 1) dX6_binary_108 rfl rfl ?_
      refine ex_goto (q := 113) dX6_binary_109 rfl ?_
      exact ex_iret dX6_binary_113 rfl (by first | rfl | (simp_all [sx_bin]; done)) rfl
  · refine Ok.of (ls := [some (.int 20043), some (.int x), some (.int y)]) (Nat.le_of_ble_eq_true rfl) rfl ?_
    refine ex_iload_n dX6_binary_0 rfl rfl ?_
    refine ex_sipush (x := 20000) dX6_binary_1 rfl rfl ?_
    refine ex_isub (z := 43) dX6_binary_4 rfl (by decide) ?_
    refine ex_lsw (q := 114) (off := 109) dX6_binary_5 (by decide) (by decide) rfl ?_
    refine ex_iload_n dX6_binary_114 rfl rfl ?_
    refine ex_iload_n dX6_binary_115 rfl rfl ?_
    refine ex_iadd (z := x + y) dX6_binary_116 rfl (rfl) ?_
    exact ex_iret dX6_binary_117 rfl (by first | rfl | (simp_all [sx_bin]; done)) rfl
  · refine Ok.of (ls := [some (.int 20045), some (.int x), some (.int y)]) (Nat.le_of_ble_eq_true rfl) rfl ?_
    refine ex_iload_n dX6_binary_0 rfl rfl ?_
    refine ex_sipush (x := 20000) dX6_binary_1 rfl rfl ?_
    refine ex_isub (z := 45) dX6_binary_4 rfl (by decide) ?_
    refine ex_lsw (q := 118) (off := 113) dX6_binary_5 (by decide) (by decide) rfl ?_
    refine ex_iload_n dX6_binary_118 rfl rfl ?_
    refine ex_iload_n dX6_binary_119 rfl rfl ?_
    refine ex_isub (z := x - y) dX6_binary_120 rfl (rfl) ?_
    exact ex_iret dX6_binary_121 rfl (by first | rfl | (simp_all [sx_bin]; done)) rfl
  · refine Ok.of (ls := [some (.int 20042), some (.int x), some (.int y)]) (Nat.le_of_ble_eq_true rfl) rfl ?_
    refine ex_iload_n dX6_binary_0 rfl rfl ?_
    refine ex_sipush (x := 20000) dX6_binary_1 rfl rfl ?_
    refine ex_isub (z := 42) dX6_binary_4 rfl (by decide) ?_
    refine ex_lsw (q := 122) (off := 117) dX6_binary_5 (by decide) (by decide) rfl ?_
    refine ex_iload_n dX6_binary_122 rfl rfl ?_
    refine ex_iload_n dX6_binary_123 rfl rfl ?_
    refine ex_imul (z := x * y) dX6_binary_124 rfl (rfl) ?_
    exact ex_iret dX6_binary_125 rfl (by first | rfl | (simp_all [sx_bin]; done)) rfl

set_option maxHeartbeats 2000000 in
theorem k_two {lay : List qm_LE} (σ : qm_St) (x y : Int32) {c : Nat} (hc : c = 20007 ∨ c = 20008 ∨ c = 20060 ∨ c = 20061 ∨ c = 20043 ∨ c = 20045 ∨ c = 20042) : Ok lay 0 mX9_two [.int (nI (gx_m c)), .int x, .int y] σ (some (.int (sx_bin c x y))) σ := by
  rcases hc with rfl | rfl | rfl | rfl | rfl | rfl | rfl
  · refine Ok.of (ls := [some (.int 11), some (.int x), some (.int y)]) (Nat.le_of_ble_eq_true rfl) rfl ?_
    refine ex_iload_n dX9_two_0 rfl rfl ?_
    refine ex_tswI (q := 44) (off := 43) dX9_two_1 (by decide) rfl rfl ?_
    refine ex_iload_n dX9_two_44 rfl rfl ?_
    refine ex_if_ne (q := 52) (q2 := 48) dX9_two_45 rfl rfl (fun h45 => ?_) (fun h45 => ?_)
    · refine ex_iconst (x := 1) dX9_two_52 rfl rfl ?_
      refine ex_goto (q := 57) dX9_two_53 rfl ?_
      exact ex_iret dX9_two_57 rfl (by first | rfl | (simp_all [sx_bin]; done)) rfl
    · refine ex_iload_n dX9_two_48 rfl rfl ?_
      refine ex_if_eq (q := 56) (q2 := 52) dX9_two_49 rfl rfl (fun h49 => ?_) (fun h49 => ?_)
      · refine ex_iconst (x := 0) dX9_two_56 rfl rfl ?_
        exact ex_iret dX9_two_57 rfl (by first | rfl | (simp_all [sx_bin]; done)) rfl
      · refine ex_iconst (x := 1) dX9_two_52 rfl rfl ?_
        refine ex_goto (q := 57) dX9_two_53 rfl ?_
        exact ex_iret dX9_two_57 rfl (by first | rfl | (simp_all [sx_bin]; done)) rfl
  · refine Ok.of (ls := [some (.int 12), some (.int x), some (.int y)]) (Nat.le_of_ble_eq_true rfl) rfl ?_
    refine ex_iload_n dX9_two_0 rfl rfl ?_
    refine ex_tswI (q := 58) (off := 57) dX9_two_1 (by decide) rfl rfl ?_
    refine ex_iload_n dX9_two_58 rfl rfl ?_
    refine ex_if_eq (q := 70) (q2 := 62) dX9_two_59 rfl rfl (fun h59 => ?_) (fun h59 => ?_)
    · refine ex_iconst (x := 0) dX9_two_70 rfl rfl ?_
      exact ex_iret dX9_two_71 rfl (by first | rfl | (simp_all [sx_bin]; done)) rfl
    · refine ex_iload_n dX9_two_62 rfl rfl ?_
      refine ex_if_eq (q := 70) (q2 := 66) dX9_two_63 rfl rfl (fun h63 => ?_) (fun h63 => ?_)
      · refine ex_iconst (x := 0) dX9_two_70 rfl rfl ?_
        exact ex_iret dX9_two_71 rfl (by first | rfl | (simp_all [sx_bin]; done)) rfl
      · refine ex_iconst (x := 1) dX9_two_66 rfl rfl ?_
        refine ex_goto (q := 71) dX9_two_67 rfl ?_
        exact ex_iret dX9_two_71 rfl (by first | rfl | (simp_all [sx_bin]; done)) rfl
  · refine Ok.of (ls := [some (.int 14), some (.int x), some (.int y)]) (Nat.le_of_ble_eq_true rfl) rfl ?_
    refine ex_iload_n dX9_two_0 rfl rfl ?_
    refine ex_tswI (q := 72) (off := 71) dX9_two_1 (by decide) rfl rfl ?_
    refine ex_iload_n dX9_two_72 rfl rfl ?_
    refine ex_iload_n dX9_two_73 rfl rfl ?_
    refine ex_icmp_ge (q := 81) (q2 := 77) dX9_two_74 rfl rfl (fun h74 => ?_) (fun h74 => ?_)
    · refine ex_iconst (x := 0) dX9_two_81 rfl rfl ?_
      exact ex_iret dX9_two_82 rfl (by first | rfl | (simp_all [sx_bin]; done)) rfl
    · refine ex_iconst (x := 1) dX9_two_77 rfl rfl ?_
      refine ex_goto (q := 82) dX9_two_78 rfl ?_
      exact ex_iret dX9_two_82 rfl (by first | rfl | (simp_all [sx_bin]; done)) rfl
  · refine Ok.of (ls := [some (.int 15), some (.int x), some (.int y)]) (Nat.le_of_ble_eq_true rfl) rfl ?_
    refine ex_iload_n dX9_two_0 rfl rfl ?_
    refine ex_tswI (q := 83) (off := 82) dX9_two_1 (by decide) rfl rfl ?_
    refine ex_iload_n dX9_two_83 rfl rfl ?_
    refine ex_iload_n dX9_two_84 rfl rfl ?_
    refine ex_icmp_ne (q := 92) (q2 := 88) dX9_two_85 rfl rfl (fun h85 => ?_) (fun h85 => ?_)
    · refine ex_iconst (x := 0) dX9_two_92 rfl rfl ?_
      exact ex_iret dX9_two_93 rfl (by first | rfl | (simp_all [sx_bin]; done)) rfl
    · refine ex_iconst (x := 1) dX9_two_88 rfl rfl ?_
      refine ex_goto (q := 93) dX9_two_89 rfl ?_
      exact ex_iret dX9_two_93 rfl (by first | rfl | (simp_all [sx_bin]; done)) rfl
  · refine Ok.of (ls := [some (.int 16), some (.int x), some (.int y)]) (Nat.le_of_ble_eq_true rfl) rfl ?_
    refine ex_iload_n dX9_two_0 rfl rfl ?_
    refine ex_tswI (q := 94) (off := 93) dX9_two_1 (by decide) rfl rfl ?_
    refine ex_iload_n dX9_two_94 rfl rfl ?_
    refine ex_iload_n dX9_two_95 rfl rfl ?_
    refine ex_iadd (z := x + y) dX9_two_96 rfl (rfl) ?_
    exact ex_iret dX9_two_97 rfl (by first | rfl | (simp_all [sx_bin]; done)) rfl
  · refine Ok.of (ls := [some (.int 17), some (.int x), some (.int y)]) (Nat.le_of_ble_eq_true rfl) rfl ?_
    refine ex_iload_n dX9_two_0 rfl rfl ?_
    refine ex_tswI (q := 98) (off := 97) dX9_two_1 (by decide) rfl rfl ?_
    refine ex_iload_n dX9_two_98 rfl rfl ?_
    refine ex_iload_n dX9_two_99 rfl rfl ?_
    refine ex_isub (z := x - y) dX9_two_100 rfl (rfl) ?_
    exact ex_iret dX9_two_101 rfl (by first | rfl | (simp_all [sx_bin]; done)) rfl
  · refine Ok.of (ls := [some (.int 18), some (.int x), some (.int y)]) (Nat.le_of_ble_eq_true rfl) rfl ?_
    refine ex_iload_n dX9_two_0 rfl rfl ?_
    refine ex_tswO (q := 102) dX9_two_1 (by decide) rfl ?_
    refine ex_iload_n dX9_two_102 rfl rfl ?_
    refine ex_iload_n dX9_two_103 rfl rfl ?_
    refine ex_imul (z := x * y) dX9_two_104 rfl (rfl) ?_
    exact ex_iret dX9_two_105 rfl (by first | rfl | (simp_all [sx_bin]; done)) rfl

theorem c_unary_20009 {lay : List qm_LE} (σ : qm_St) (x : Int32) : Ok lay 0 mX6_unary [.int 20009, .int x] σ (some (.int (if x = 0 then 1 else 0))) σ := by
  refine Ok.of (ls := [some (.int 20009), some (.int x)]) (Nat.le_of_ble_eq_true rfl) rfl ?_
  refine ex_iload_n dX6_unary_0 rfl rfl ?_
  refine ex_sipush (x := 20010) dX6_unary_1 rfl rfl ?_
  refine ex_icmp_ne (q := 10) (q2 := 7) dX6_unary_4 rfl rfl (fun _ => ?_) (fun hh => absurd (by decide) hh)
  refine ex_iload_n dX6_unary_10 rfl rfl ?_
  refine ex_if_ne (q := 18) (q2 := 14) dX6_unary_11 rfl rfl (fun h11 => ?_) (fun h11 => ?_)
  · refine ex_iconst (x := 0) dX6_unary_18 rfl rfl ?_
    exact ex_iret dX6_unary_19 rfl (by first | (rw [if_pos (by assumption)]) | (rw [if_pos (Decidable.not_not.mp (by assumption))]) | (rw [if_neg (by assumption)])) rfl
  · refine ex_iconst (x := 1) dX6_unary_14 rfl rfl ?_
    refine ex_goto (q := 19) dX6_unary_15 rfl ?_
    exact ex_iret dX6_unary_19 rfl (by first | (rw [if_pos (by assumption)]) | (rw [if_pos (Decidable.not_not.mp (by assumption))]) | (rw [if_neg (by assumption)])) rfl

theorem c_unary_20010 {lay : List qm_LE} (σ : qm_St) (x : Int32) : Ok lay 0 mX6_unary [.int 20010, .int x] σ (some (.int (-x))) σ := by
  refine Ok.of (ls := [some (.int 20010), some (.int x)]) (Nat.le_of_ble_eq_true rfl) rfl ?_
  refine ex_iload_n dX6_unary_0 rfl rfl ?_
  refine ex_sipush (x := 20010) dX6_unary_1 rfl rfl ?_
  refine ex_icmp_ne (q := 10) (q2 := 7) dX6_unary_4 rfl rfl (fun hh => absurd hh (by decide)) (fun _ => ?_)
  refine ex_iload_n dX6_unary_7 rfl rfl ?_
  refine ex_ineg (z := -x) dX6_unary_8 rfl (rfl) ?_
  exact ex_iret dX6_unary_9 rfl rfl rfl

theorem c_isUnary_20009 {lay : List qm_LE} (σ : qm_St) : Ok lay 0 mX3_isUnary [.int 20009] σ (some (.int 1)) σ := by
  refine Ok.of (ls := [some (.int 20009)]) (Nat.le_of_ble_eq_true rfl) rfl ?_
  refine ex_iload_n dX3_isUnary_0 rfl rfl ?_
  refine ex_sipush (x := 20009) dX3_isUnary_1 rfl rfl ?_
  refine ex_icmp_eq (q := 14) (q2 := 7) dX3_isUnary_4 rfl rfl (fun _ => ?_) (fun hh => absurd (by decide) hh)
  refine ex_iconst (x := 1) dX3_isUnary_14 rfl rfl ?_
  refine ex_goto (q := 19) dX3_isUnary_15 rfl ?_
  exact ex_zret dX3_isUnary_19 rfl (by decide) rfl rfl

theorem c_isUnary_20010 {lay : List qm_LE} (σ : qm_St) : Ok lay 0 mX3_isUnary [.int 20010] σ (some (.int 1)) σ := by
  refine Ok.of (ls := [some (.int 20010)]) (Nat.le_of_ble_eq_true rfl) rfl ?_
  refine ex_iload_n dX3_isUnary_0 rfl rfl ?_
  refine ex_sipush (x := 20009) dX3_isUnary_1 rfl rfl ?_
  refine ex_icmp_eq (q := 14) (q2 := 7) dX3_isUnary_4 rfl rfl (fun hh => absurd hh (by decide)) (fun _ => ?_)
  refine ex_iload_n dX3_isUnary_7 rfl rfl ?_
  refine ex_sipush (x := 20010) dX3_isUnary_8 rfl rfl ?_
  refine ex_icmp_ne (q := 18) (q2 := 14) dX3_isUnary_11 rfl rfl (fun hh => absurd hh (by decide)) (fun _ => ?_)
  refine ex_iconst (x := 1) dX3_isUnary_14 rfl rfl ?_
  refine ex_goto (q := 19) dX3_isUnary_15 rfl ?_
  exact ex_zret dX3_isUnary_19 rfl (by decide) rfl rfl

theorem c_isUnary_b {lay : List qm_LE} (σ : qm_St) {c : Nat} (hc : c = 20007 ∨ c = 20008 ∨ c = 20060 ∨ c = 20061 ∨ c = 20043 ∨ c = 20045 ∨ c = 20042) : Ok lay 0 mX3_isUnary [.int (nI c)] σ (some (.int 0)) σ := by
  rcases hc with rfl | rfl | rfl | rfl | rfl | rfl | rfl
  · refine Ok.of (ls := [some (.int 20007)]) (Nat.le_of_ble_eq_true rfl) rfl ?_
    refine ex_iload_n dX3_isUnary_0 rfl rfl ?_
    refine ex_sipush (x := 20009) dX3_isUnary_1 rfl rfl ?_
    refine ex_icmp_eq (q := 14) (q2 := 7) dX3_isUnary_4 rfl rfl (fun hh => absurd hh (by decide)) (fun _ => ?_)
    refine ex_iload_n dX3_isUnary_7 rfl rfl ?_
    refine ex_sipush (x := 20010) dX3_isUnary_8 rfl rfl ?_
    refine ex_icmp_ne (q := 18) (q2 := 14) dX3_isUnary_11 rfl rfl (fun _ => ?_) (fun hh => absurd (by decide) hh)
    refine ex_iconst (x := 0) dX3_isUnary_18 rfl rfl ?_
    exact ex_zret dX3_isUnary_19 rfl (by decide) rfl rfl
  · refine Ok.of (ls := [some (.int 20008)]) (Nat.le_of_ble_eq_true rfl) rfl ?_
    refine ex_iload_n dX3_isUnary_0 rfl rfl ?_
    refine ex_sipush (x := 20009) dX3_isUnary_1 rfl rfl ?_
    refine ex_icmp_eq (q := 14) (q2 := 7) dX3_isUnary_4 rfl rfl (fun hh => absurd hh (by decide)) (fun _ => ?_)
    refine ex_iload_n dX3_isUnary_7 rfl rfl ?_
    refine ex_sipush (x := 20010) dX3_isUnary_8 rfl rfl ?_
    refine ex_icmp_ne (q := 18) (q2 := 14) dX3_isUnary_11 rfl rfl (fun _ => ?_) (fun hh => absurd (by decide) hh)
    refine ex_iconst (x := 0) dX3_isUnary_18 rfl rfl ?_
    exact ex_zret dX3_isUnary_19 rfl (by decide) rfl rfl
  · refine Ok.of (ls := [some (.int 20060)]) (Nat.le_of_ble_eq_true rfl) rfl ?_
    refine ex_iload_n dX3_isUnary_0 rfl rfl ?_
    refine ex_sipush (x := 20009) dX3_isUnary_1 rfl rfl ?_
    refine ex_icmp_eq (q := 14) (q2 := 7) dX3_isUnary_4 rfl rfl (fun hh => absurd hh (by decide)) (fun _ => ?_)
    refine ex_iload_n dX3_isUnary_7 rfl rfl ?_
    refine ex_sipush (x := 20010) dX3_isUnary_8 rfl rfl ?_
    refine ex_icmp_ne (q := 18) (q2 := 14) dX3_isUnary_11 rfl rfl (fun _ => ?_) (fun hh => absurd (by decide) hh)
    refine ex_iconst (x := 0) dX3_isUnary_18 rfl rfl ?_
    exact ex_zret dX3_isUnary_19 rfl (by decide) rfl rfl
  · refine Ok.of (ls := [some (.int 20061)]) (Nat.le_of_ble_eq_true rfl) rfl ?_
    refine ex_iload_n dX3_isUnary_0 rfl rfl ?_
    refine ex_sipush (x := 20009) dX3_isUnary_1 rfl rfl ?_
    refine ex_icmp_eq (q := 14) (q2 := 7) dX3_isUnary_4 rfl rfl (fun hh => absurd hh (by decide)) (fun _ => ?_)
    refine ex_iload_n dX3_isUnary_7 rfl rfl ?_
    refine ex_sipush (x := 20010) dX3_isUnary_8 rfl rfl ?_
    refine ex_icmp_ne (q := 18) (q2 := 14) dX3_isUnary_11 rfl rfl (fun _ => ?_) (fun hh => absurd (by decide) hh)
    refine ex_iconst (x := 0) dX3_isUnary_18 rfl rfl ?_
    exact ex_zret dX3_isUnary_19 rfl (by decide) rfl rfl
  · refine Ok.of (ls := [some (.int 20043)]) (Nat.le_of_ble_eq_true rfl) rfl ?_
    refine ex_iload_n dX3_isUnary_0 rfl rfl ?_
    refine ex_sipush (x := 20009) dX3_isUnary_1 rfl rfl ?_
    refine ex_icmp_eq (q := 14) (q2 := 7) dX3_isUnary_4 rfl rfl (fun hh => absurd hh (by decide)) (fun _ => ?_)
    refine ex_iload_n dX3_isUnary_7 rfl rfl ?_
    refine ex_sipush (x := 20010) dX3_isUnary_8 rfl rfl ?_
    refine ex_icmp_ne (q := 18) (q2 := 14) dX3_isUnary_11 rfl rfl (fun _ => ?_) (fun hh => absurd (by decide) hh)
    refine ex_iconst (x := 0) dX3_isUnary_18 rfl rfl ?_
    exact ex_zret dX3_isUnary_19 rfl (by decide) rfl rfl
  · refine Ok.of (ls := [some (.int 20045)]) (Nat.le_of_ble_eq_true rfl) rfl ?_
    refine ex_iload_n dX3_isUnary_0 rfl rfl ?_
    refine ex_sipush (x := 20009) dX3_isUnary_1 rfl rfl ?_
    refine ex_icmp_eq (q := 14) (q2 := 7) dX3_isUnary_4 rfl rfl (fun hh => absurd hh (by decide)) (fun _ => ?_)
    refine ex_iload_n dX3_isUnary_7 rfl rfl ?_
    refine ex_sipush (x := 20010) dX3_isUnary_8 rfl rfl ?_
    refine ex_icmp_ne (q := 18) (q2 := 14) dX3_isUnary_11 rfl rfl (fun _ => ?_) (fun hh => absurd (by decide) hh)
    refine ex_iconst (x := 0) dX3_isUnary_18 rfl rfl ?_
    exact ex_zret dX3_isUnary_19 rfl (by decide) rfl rfl
  · refine Ok.of (ls := [some (.int 20042)]) (Nat.le_of_ble_eq_true rfl) rfl ?_
    refine ex_iload_n dX3_isUnary_0 rfl rfl ?_
    refine ex_sipush (x := 20009) dX3_isUnary_1 rfl rfl ?_
    refine ex_icmp_eq (q := 14) (q2 := 7) dX3_isUnary_4 rfl rfl (fun hh => absurd hh (by decide)) (fun _ => ?_)
    refine ex_iload_n dX3_isUnary_7 rfl rfl ?_
    refine ex_sipush (x := 20010) dX3_isUnary_8 rfl rfl ?_
    refine ex_icmp_ne (q := 18) (q2 := 14) dX3_isUnary_11 rfl rfl (fun _ => ?_) (fun hh => absurd (by decide) hh)
    refine ex_iconst (x := 0) dX3_isUnary_18 rfl rfl ?_
    exact ex_zret dX3_isUnary_19 rfl (by decide) rfl rfl

theorem rF_same {σ σ1 : qm_St} {i1 i2 j1 j2 r i : Nat} (h : sm σ σ1 i1 i2 j1 j2) (hr : r < j1 ∨ j2 ≤ r) : qm_rF σ1 r i = qm_rF σ r i := h.2 r hr i
set_option maxHeartbeats 2000000 in
theorem l_valueOf {σ : qm_St} {f : Nat → Nat} {a n : Nat} {nm : Nat → Int32} {p jj : Nat} (hp : qm_lay[p]? = some (.inr (.inl (160, jj)))) (hjj : jj < 4 ∨ 6 ≤ jj) (hf : ∀ k, k < n → qm_rF σ jj (a + k) = nI (f (a + k))) (hnm : ∀ i, i < 6 → qm_rF σ 4 i = nm i) (hn : a + n ≤ 160) (hh : gx_hs f a n = some 1) : ∀ (r k : Nat) (x : Option Value) (σ1 : qm_St) (h : Nat), k + r = n → gx_hs f a k = some h → KS σ1 5 (sx_run nm f a k) → sm σ σ1 8 8 5 6 → ∃ σ', Ex qm_lay 5 mX6_valueOf 6 [some (.ref 4), some (.ref p), some (.int (nI a)), some (.int (nI (a + n))), some (.int (nI h)), some (.int (nI (a + k))), x] [] σ1 (some (.int ((sx_run nm f a n).2 0))) σ' ∧ sm σ σ' 8 8 5 6 := by
  intro r
  induction r with
  | zero =>
    intro k x σ1 h hk e hs1 hs
    have ek : k = n := by omega
    subst ek
    obtain ⟨h1, h2⟩ := gx_hs_run nm f a k h e
    have hpos : h = 1 := by rw [hh] at e; exact (Option.some.inj e).symm
    refine ⟨σ1, ?_, hs⟩
    refine ex_iload dX6_valueOf_6 rfl rfl ?_
    refine ex_iload_n dX6_valueOf_8 rfl rfl ?_
    refine ex_icmp_ge (q := 161) (q2 := 12) dX6_valueOf_9 rfl rfl (fun _ => ?_) (fun hh => absurd (nI_le (by omega) (by omega)) hh)
    refine ex_aload_n dX6_valueOf_161 rfl rfl ?_
    refine ex_getR (b := 7) dX6_valueOf_162 rfl qp_5_33 rfl rfl ?_
    refine ex_iconst (x := 0) dX6_valueOf_165 rfl rfl ?_
    refine ex_iaload (k := 0) (x := (sx_run nm f a k).2 0) dX6_valueOf_166 rfl rfl (rfl) (by omega) (by decide) ((hs1 0 (by rw [h1, hpos]; decide))) ?_
    exact ex_iret dX6_valueOf_167 rfl rfl rfl
  | succ r ih =>
    intro k x σ1 h hk e hs1 hs
    obtain ⟨h', e'⟩ := gx_hs_pre f a n (k + 1) 1 (by omega) hh
    have e3 : gx_h (f (a + k)) h = some h' := by rw [gx_hs, e] at e'; exact e'
    obtain ⟨h1, h2⟩ := gx_hs_run nm f a k h e
    have hE1 : sx_run nm f a k = (h, (sx_run nm f a k).2) := by rw [← h1]
    rw [hE1] at hs1
    have hst : sx_run nm f a (k + 1) = sx_step nm (f (a + k)) (h, (sx_run nm f a k).2) := by rw [sx_run, ← hE1]
    obtain ⟨s, hs0⟩ : ∃ s, s = (sx_run nm f a k).2 := ⟨_, rfl⟩
    rw [← hs0] at hs1 hst
    have hfk := hf k (by omega)
    obtain ⟨c, hc⟩ : ∃ c, c = f (a + k) := ⟨_, rfl⟩
    rw [← hc] at e3 hst hfk
    rcases gx_h_cs e3 with ⟨c1, c2, c3⟩ | ⟨j, c1, c2, c3, c4⟩ | ⟨c1, g, c2, c3⟩ | ⟨c1, g, c2, c3⟩ | ⟨c1, g, c2, c3⟩
    · have hq : sx_run nm f a (k + 1) = (h + 1, upd s (h) (nI c)) := by rw [hst]; rw [sx_step, if_pos c1]
      obtain ⟨σ', hE, hs2⟩ := ih (k + 1) (some (.int (nI c))) (qm_wF σ1 5 (h) (nI c)) (h + 1) (by omega) (by rw [e', c3]) (by rw [hq]; exact hs1.set _ _ _ (by omega)) (hs.wF _ (by omega))
      refine ⟨σ', ?_, hs2⟩
      refine ex_iload dX6_valueOf_6 rfl rfl ?_
      refine ex_iload_n dX6_valueOf_8 rfl rfl ?_
      refine ex_icmp_ge (q := 161) (q2 := 12) dX6_valueOf_9 rfl rfl (fun hh => absurd hh (nI_ge (by omega) (by omega))) (fun _ => ?_)
      refine ex_aload_n dX6_valueOf_12 rfl rfl ?_
      refine ex_iload dX6_valueOf_13 rfl rfl ?_
      refine ex_iaload (k := a + k) (x := nI c) dX6_valueOf_15 rfl hp (rfl) (by omega) (by decide) ((by rw [hs.2 _ (by omega)]; exact hfk)) ?_
      refine ex_istore (ls' := [some (.ref 4), some (.ref p), some (.int (nI a)), some (.int (nI (a + n))), some (.int (nI h)), some (.int (nI (a + k))), some (.int (nI c))]) dX6_valueOf_16 rfl (Nat.le_of_ble_eq_true rfl) rfl rfl ?_
      refine ex_iload dX6_valueOf_18 rfl rfl ?_
      refine ex_sipush (x := 20000) dX6_valueOf_20 rfl rfl ?_
      refine ex_icmp_ge (q := 72) (q2 := 26) dX6_valueOf_23 rfl rfl (fun hh => absurd hh (nI_ge (a := c) (b := 20000) (by omega) (by omega))) (fun _ => ?_)
      refine ex_iload dX6_valueOf_26 rfl rfl ?_
      refine ex_bipush (x := 64) dX6_valueOf_28 rfl rfl ?_
      refine ex_icmp_lt (q := 35) (q2 := 33) dX6_valueOf_30 rfl rfl (fun _ => ?_) (fun hh => absurd (nI_lt (a := h) (b := 64) (by omega) (by omega)) hh)
      refine ex_aload_n dX6_valueOf_35 rfl rfl ?_
      refine ex_getR (b := 7) dX6_valueOf_36 rfl qp_5_33 rfl rfl ?_
      refine ex_iload dX6_valueOf_39 rfl rfl ?_
      refine ex_iload dX6_valueOf_41 rfl rfl ?_
      refine ex_sipush (x := 10000) dX6_valueOf_43 rfl rfl ?_
      refine ex_icmp_ge (q := 54) (q2 := 49) dX6_valueOf_46 rfl rfl (fun hh => absurd hh (nI_ge (a := c) (b := 10000) (by omega) (by omega))) (fun _ => ?_)
      refine ex_iload dX6_valueOf_49 rfl rfl ?_
      refine ex_goto (q := 65) dX6_valueOf_51 rfl ?_
      refine ex_iastore (k := h) (σ' := qm_wF σ1 5 h (nI c)) dX6_valueOf_65 rfl rfl (rfl) (by omega) (by decide) rfl ?_
      refine ex_iinc (y := nI (h + 1)) (ls' := [some (.ref 4), some (.ref p), some (.int (nI a)), some (.int (nI (a + n))), some (.int (nI (h + 1))), some (.int (nI (a + k))), some (.int (nI c))]) dX6_valueOf_66 rfl rfl rfl (nI_add h 1) rfl ?_
      refine ex_goto (q := 155) dX6_valueOf_69 rfl ?_
      refine ex_iinc (y := nI ((a + k) + 1)) (ls' := [some (.ref 4), some (.ref p), some (.int (nI a)), some (.int (nI (a + n))), some (.int (nI (h + 1))), some (.int (nI ((a + k) + 1))), some (.int (nI c))]) dX6_valueOf_155 rfl rfl rfl (nI_add (a + k) 1) rfl ?_
      refine ex_goto (q := 6) dX6_valueOf_158 rfl ?_
      exact hE
    · subst c1
      have hq : sx_run nm f a (k + 1) = (h + 1, upd s (h) (nm j)) := by rw [hst]; rw [sx_step, if_neg (by omega), if_pos (by omega)]; show (h + 1, upd s h (nm (10000 + j - 10000))) = _; rw [Nat.add_sub_cancel_left]
      obtain ⟨σ', hE, hs2⟩ := ih (k + 1) (some (.int (nI (10000 + j)))) (qm_wF σ1 5 (h) (nm j)) (h + 1) (by omega) (by rw [e', c4]) (by rw [hq]; exact hs1.set _ _ _ (by omega)) (hs.wF _ (by omega))
      refine ⟨σ', ?_, hs2⟩
      refine ex_iload dX6_valueOf_6 rfl rfl ?_
      refine ex_iload_n dX6_valueOf_8 rfl rfl ?_
      refine ex_icmp_ge (q := 161) (q2 := 12) dX6_valueOf_9 rfl rfl (fun hh => absurd hh (nI_ge (by omega) (by omega))) (fun _ => ?_)
      refine ex_aload_n dX6_valueOf_12 rfl rfl ?_
      refine ex_iload dX6_valueOf_13 rfl rfl ?_
      refine ex_iaload (k := a + k) (x := nI (10000 + j)) dX6_valueOf_15 rfl hp (rfl) (by omega) (by decide) ((by rw [hs.2 _ (by omega)]; exact hfk)) ?_
      refine ex_istore (ls' := [some (.ref 4), some (.ref p), some (.int (nI a)), some (.int (nI (a + n))), some (.int (nI h)), some (.int (nI (a + k))), some (.int (nI (10000 + j)))]) dX6_valueOf_16 rfl (Nat.le_of_ble_eq_true rfl) rfl rfl ?_
      refine ex_iload dX6_valueOf_18 rfl rfl ?_
      refine ex_sipush (x := 20000) dX6_valueOf_20 rfl rfl ?_
      refine ex_icmp_ge (q := 72) (q2 := 26) dX6_valueOf_23 rfl rfl (fun hh => absurd hh (nI_ge (a := (10000 + j)) (b := 20000) (by omega) (by omega))) (fun _ => ?_)
      refine ex_iload dX6_valueOf_26 rfl rfl ?_
      refine ex_bipush (x := 64) dX6_valueOf_28 rfl rfl ?_
      refine ex_icmp_lt (q := 35) (q2 := 33) dX6_valueOf_30 rfl rfl (fun _ => ?_) (fun hh => absurd (nI_lt (a := h) (b := 64) (by omega) (by omega)) hh)
      refine ex_aload_n dX6_valueOf_35 rfl rfl ?_
      refine ex_getR (b := 7) dX6_valueOf_36 rfl qp_5_33 rfl rfl ?_
      refine ex_iload dX6_valueOf_39 rfl rfl ?_
      refine ex_iload dX6_valueOf_41 rfl rfl ?_
      refine ex_sipush (x := 10000) dX6_valueOf_43 rfl rfl ?_
      refine ex_icmp_ge (q := 54) (q2 := 49) dX6_valueOf_46 rfl rfl (fun _ => ?_) (fun hh => absurd (nI_le (a := 10000) (b := (10000 + j)) (by omega) (by omega)) hh)
      refine ex_aload_n dX6_valueOf_54 rfl rfl ?_
      refine ex_getR (b := 6) dX6_valueOf_55 rfl qp_5_30 rfl rfl ?_
      refine ex_iload dX6_valueOf_58 rfl rfl ?_
      refine ex_sipush (x := 10000) dX6_valueOf_60 rfl rfl ?_
      refine ex_isub (z := nI j) dX6_valueOf_63 rfl ((pk_sub (a := 10000 + j) (b := 10000) (by omega)).trans (by rw [Nat.add_sub_cancel_left])) ?_
      refine ex_iaload (k := j) (x := nm j) dX6_valueOf_64 rfl rfl (rfl) (by omega) (by decide) ((by rw [rF_same hs (by omega)]; exact hnm j c2)) ?_
      refine ex_iastore (k := h) (σ' := qm_wF σ1 5 h (nm j)) dX6_valueOf_65 rfl rfl (rfl) (by omega) (by decide) rfl ?_
      refine ex_iinc (y := nI (h + 1)) (ls' := [some (.ref 4), some (.ref p), some (.int (nI a)), some (.int (nI (a + n))), some (.int (nI (h + 1))), some (.int (nI (a + k))), some (.int (nI (10000 + j)))]) dX6_valueOf_66 rfl rfl rfl (nI_add h 1) rfl ?_
      refine ex_goto (q := 155) dX6_valueOf_69 rfl ?_
      refine ex_iinc (y := nI ((a + k) + 1)) (ls' := [some (.ref 4), some (.ref p), some (.int (nI a)), some (.int (nI (a + n))), some (.int (nI (h + 1))), some (.int (nI ((a + k) + 1))), some (.int (nI (10000 + j)))]) dX6_valueOf_155 rfl rfl rfl (nI_add (a + k) 1) rfl ?_
      refine ex_goto (q := 6) dX6_valueOf_158 rfl ?_
      exact hE
    · subst c1
      subst c2
      have hq : sx_run nm f a (k + 1) = (g + 1, upd s (g) (if s g = 0 then 1 else 0)) := by rw [hst]; simp only [sx_step]; rfl
      obtain ⟨σ', hE, hs2⟩ := ih (k + 1) (some (.int 20009)) (qm_wF σ1 5 (g) (if s g = 0 then 1 else 0)) (g + 1) (by omega) (by rw [e', c3]) (by rw [hq]; exact hs1.set _ _ _ (by omega)) (hs.wF _ (by omega))
      refine ⟨σ', ?_, hs2⟩
      refine ex_iload dX6_valueOf_6 rfl rfl ?_
      refine ex_iload_n dX6_valueOf_8 rfl rfl ?_
      refine ex_icmp_ge (q := 161) (q2 := 12) dX6_valueOf_9 rfl rfl (fun hh => absurd hh (nI_ge (by omega) (by omega))) (fun _ => ?_)
      refine ex_aload_n dX6_valueOf_12 rfl rfl ?_
      refine ex_iload dX6_valueOf_13 rfl rfl ?_
      refine ex_iaload (k := a + k) (x := 20009) dX6_valueOf_15 rfl hp (rfl) (by omega) (by decide) ((by rw [hs.2 _ (by omega)]; exact hfk)) ?_
      refine ex_istore (ls' := [some (.ref 4), some (.ref p), some (.int (nI a)), some (.int (nI (a + n))), some (.int (nI (g + 1))), some (.int (nI (a + k))), some (.int 20009)]) dX6_valueOf_16 rfl (Nat.le_of_ble_eq_true rfl) rfl rfl ?_
      refine ex_iload dX6_valueOf_18 rfl rfl ?_
      refine ex_sipush (x := 20000) dX6_valueOf_20 rfl rfl ?_
      refine ex_icmp_ge (q := 72) (q2 := 26) dX6_valueOf_23 rfl rfl (fun _ => ?_) (fun hh => absurd (by decide) hh)
      refine ex_iload dX6_valueOf_72 rfl rfl ?_
      refine ex_callS (rest := []) dX6_valueOf_74 rfl qp_5_114 rfl rfl rfl (Nat.le_of_ble_eq_true rfl) (c_isUnary_20009 _) (Nat.le_of_ble_eq_true rfl) ?_
      show Ex qm_lay _ mX6_valueOf 77 [some (.ref 4), some (.ref p), some (.int (nI a)), some (.int (nI (a + n))), some (.int (nI (g + 1))), some (.int (nI (a + k))), some (.int 20009)] [.int 1] σ1 _ _
      refine ex_if_eq (q := 114) (q2 := 80) dX6_valueOf_77 rfl rfl (fun hh => absurd hh (by decide)) (fun _ => ?_)
      refine ex_iload dX6_valueOf_80 rfl rfl ?_
      refine ex_iconst (x := 1) dX6_valueOf_82 rfl rfl ?_
      refine ex_icmp_ge (q := 88) (q2 := 86) dX6_valueOf_83 rfl rfl (fun _ => ?_) (fun hh => absurd (nI_le (a := 1) (b := (g + 1)) (by omega) (by omega)) hh)
      refine ex_aload_n dX6_valueOf_88 rfl rfl ?_
      refine ex_getR (b := 7) dX6_valueOf_89 rfl qp_5_33 rfl rfl ?_
      refine ex_iload dX6_valueOf_92 rfl rfl ?_
      refine ex_iconst (x := 1) dX6_valueOf_94 rfl rfl ?_
      refine ex_isub (z := nI g) dX6_valueOf_95 rfl (nI_pred g) ?_
      refine ex_iload dX6_valueOf_96 rfl rfl ?_
      refine ex_aload_n dX6_valueOf_98 rfl rfl ?_
      refine ex_getR (b := 7) dX6_valueOf_99 rfl qp_5_33 rfl rfl ?_
      refine ex_iload dX6_valueOf_102 rfl rfl ?_
      refine ex_iconst (x := 1) dX6_valueOf_104 rfl rfl ?_
      refine ex_isub (z := nI g) dX6_valueOf_105 rfl (nI_pred g) ?_
      refine ex_iaload (k := g) (x := s g) dX6_valueOf_106 rfl rfl (rfl) (by omega) (by decide) ((hs1 g (Nat.lt_succ_self g))) ?_
      refine ex_callS (rest := [.int (nI g), .ref 7]) dX6_valueOf_107 rfl qp_5_117 rfl rfl rfl (Nat.le_of_ble_eq_true rfl) (c_unary_20009 _ (s g)) (Nat.le_of_ble_eq_true rfl) ?_
      show Ex qm_lay _ mX6_valueOf 110 [some (.ref 4), some (.ref p), some (.int (nI a)), some (.int (nI (a + n))), some (.int (nI (g + 1))), some (.int (nI (a + k))), some (.int 20009)] [.int (if s g = 0 then 1 else 0), .int (nI g), .ref 7] σ1 _ _
      refine ex_iastore (k := g) (σ' := qm_wF σ1 5 g (if s g = 0 then 1 else 0)) dX6_valueOf_110 rfl rfl (rfl) (by omega) (by decide) rfl ?_
      refine ex_goto (q := 155) dX6_valueOf_111 rfl ?_
      refine ex_iinc (y := nI ((a + k) + 1)) (ls' := [some (.ref 4), some (.ref p), some (.int (nI a)), some (.int (nI (a + n))), some (.int (nI (g + 1))), some (.int (nI ((a + k) + 1))), some (.int 20009)]) dX6_valueOf_155 rfl rfl rfl (nI_add (a + k) 1) rfl ?_
      refine ex_goto (q := 6) dX6_valueOf_158 rfl ?_
      exact hE
    · subst c1
      subst c2
      have hq : sx_run nm f a (k + 1) = (g + 1, upd s (g) (-(s g))) := by rw [hst]; simp only [sx_step]; rfl
      obtain ⟨σ', hE, hs2⟩ := ih (k + 1) (some (.int 20010)) (qm_wF σ1 5 (g) (-(s g))) (g + 1) (by omega) (by rw [e', c3]) (by rw [hq]; exact hs1.set _ _ _ (by omega)) (hs.wF _ (by omega))
      refine ⟨σ', ?_, hs2⟩
      refine ex_iload dX6_valueOf_6 rfl rfl ?_
      refine ex_iload_n dX6_valueOf_8 rfl rfl ?_
      refine ex_icmp_ge (q := 161) (q2 := 12) dX6_valueOf_9 rfl rfl (fun hh => absurd hh (nI_ge (by omega) (by omega))) (fun _ => ?_)
      refine ex_aload_n dX6_valueOf_12 rfl rfl ?_
      refine ex_iload dX6_valueOf_13 rfl rfl ?_
      refine ex_iaload (k := a + k) (x := 20010) dX6_valueOf_15 rfl hp (rfl) (by omega) (by decide) ((by rw [hs.2 _ (by omega)]; exact hfk)) ?_
      refine ex_istore (ls' := [some (.ref 4), some (.ref p), some (.int (nI a)), some (.int (nI (a + n))), some (.int (nI (g + 1))), some (.int (nI (a + k))), some (.int 20010)]) dX6_valueOf_16 rfl (Nat.le_of_ble_eq_true rfl) rfl rfl ?_
      refine ex_iload dX6_valueOf_18 rfl rfl ?_
      refine ex_sipush (x := 20000) dX6_valueOf_20 rfl rfl ?_
      refine ex_icmp_ge (q := 72) (q2 := 26) dX6_valueOf_23 rfl rfl (fun _ => ?_) (fun hh => absurd (by decide) hh)
      refine ex_iload dX6_valueOf_72 rfl rfl ?_
      refine ex_callS (rest := []) dX6_valueOf_74 rfl qp_5_114 rfl rfl rfl (Nat.le_of_ble_eq_true rfl) (c_isUnary_20010 _) (Nat.le_of_ble_eq_true rfl) ?_
      show Ex qm_lay _ mX6_valueOf 77 [some (.ref 4), some (.ref p), some (.int (nI a)), some (.int (nI (a + n))), some (.int (nI (g + 1))), some (.int (nI (a + k))), some (.int 20010)] [.int 1] σ1 _ _
      refine ex_if_eq (q := 114) (q2 := 80) dX6_valueOf_77 rfl rfl (fun hh => absurd hh (by decide)) (fun _ => ?_)
      refine ex_iload dX6_valueOf_80 rfl rfl ?_
      refine ex_iconst (x := 1) dX6_valueOf_82 rfl rfl ?_
      refine ex_icmp_ge (q := 88) (q2 := 86) dX6_valueOf_83 rfl rfl (fun _ => ?_) (fun hh => absurd (nI_le (a := 1) (b := (g + 1)) (by omega) (by omega)) hh)
      refine ex_aload_n dX6_valueOf_88 rfl rfl ?_
      refine ex_getR (b := 7) dX6_valueOf_89 rfl qp_5_33 rfl rfl ?_
      refine ex_iload dX6_valueOf_92 rfl rfl ?_
      refine ex_iconst (x := 1) dX6_valueOf_94 rfl rfl ?_
      refine ex_isub (z := nI g) dX6_valueOf_95 rfl (nI_pred g) ?_
      refine ex_iload dX6_valueOf_96 rfl rfl ?_
      refine ex_aload_n dX6_valueOf_98 rfl rfl ?_
      refine ex_getR (b := 7) dX6_valueOf_99 rfl qp_5_33 rfl rfl ?_
      refine ex_iload dX6_valueOf_102 rfl rfl ?_
      refine ex_iconst (x := 1) dX6_valueOf_104 rfl rfl ?_
      refine ex_isub (z := nI g) dX6_valueOf_105 rfl (nI_pred g) ?_
      refine ex_iaload (k := g) (x := s g) dX6_valueOf_106 rfl rfl (rfl) (by omega) (by decide) ((hs1 g (Nat.lt_succ_self g))) ?_
      refine ex_callS (rest := [.int (nI g), .ref 7]) dX6_valueOf_107 rfl qp_5_117 rfl rfl rfl (Nat.le_of_ble_eq_true rfl) (c_unary_20010 _ (s g)) (Nat.le_of_ble_eq_true rfl) ?_
      show Ex qm_lay _ mX6_valueOf 110 [some (.ref 4), some (.ref p), some (.int (nI a)), some (.int (nI (a + n))), some (.int (nI (g + 1))), some (.int (nI (a + k))), some (.int 20010)] [.int (-(s g)), .int (nI g), .ref 7] σ1 _ _
      refine ex_iastore (k := g) (σ' := qm_wF σ1 5 g (-(s g))) dX6_valueOf_110 rfl rfl (rfl) (by omega) (by decide) rfl ?_
      refine ex_goto (q := 155) dX6_valueOf_111 rfl ?_
      refine ex_iinc (y := nI ((a + k) + 1)) (ls' := [some (.ref 4), some (.ref p), some (.int (nI a)), some (.int (nI (a + n))), some (.int (nI (g + 1))), some (.int (nI ((a + k) + 1))), some (.int 20010)]) dX6_valueOf_155 rfl rfl rfl (nI_add (a + k) 1) rfl ?_
      refine ex_goto (q := 6) dX6_valueOf_158 rfl ?_
      exact hE
    · subst c2
      have c20 : 20000 ≤ c ∧ c ≠ 20009 ∧ c ≠ 20010 := by omega
      have hq : sx_run nm f a (k + 1) = (g + 1, upd s (g) (sx_bin c (s g) (s (g + 1)))) := by rw [hst]; rw [sx_step, if_neg (by omega), if_neg (by omega), if_neg c20.2.1, if_neg c20.2.2]; rfl
      obtain ⟨σ', hE, hs2⟩ := ih (k + 1) (some (.int (nI c))) (qm_wF σ1 5 (g) (sx_bin c (s g) (s (g + 1)))) (g + 1) (by omega) (by rw [e', c3]) (by rw [hq]; exact hs1.set _ _ _ (by omega)) (hs.wF _ (by omega))
      refine ⟨σ', ?_, hs2⟩
      refine ex_iload dX6_valueOf_6 rfl rfl ?_
      refine ex_iload_n dX6_valueOf_8 rfl rfl ?_
      refine ex_icmp_ge (q := 161) (q2 := 12) dX6_valueOf_9 rfl rfl (fun hh => absurd hh (nI_ge (by omega) (by omega))) (fun _ => ?_)
      refine ex_aload_n dX6_valueOf_12 rfl rfl ?_
      refine ex_iload dX6_valueOf_13 rfl rfl ?_
      refine ex_iaload (k := a + k) (x := nI c) dX6_valueOf_15 rfl hp (rfl) (by omega) (by decide) ((by rw [hs.2 _ (by omega)]; exact hfk)) ?_
      refine ex_istore (ls' := [some (.ref 4), some (.ref p), some (.int (nI a)), some (.int (nI (a + n))), some (.int (nI (g + 2))), some (.int (nI (a + k))), some (.int (nI c))]) dX6_valueOf_16 rfl (Nat.le_of_ble_eq_true rfl) rfl rfl ?_
      refine ex_iload dX6_valueOf_18 rfl rfl ?_
      refine ex_sipush (x := 20000) dX6_valueOf_20 rfl rfl ?_
      refine ex_icmp_ge (q := 72) (q2 := 26) dX6_valueOf_23 rfl rfl (fun _ => ?_) (fun hh => absurd (nI_le (a := 20000) (b := c) (by omega) (by omega)) hh)
      refine ex_iload dX6_valueOf_72 rfl rfl ?_
      refine ex_callS (rest := []) dX6_valueOf_74 rfl qp_5_114 rfl rfl rfl (Nat.le_of_ble_eq_true rfl) (c_isUnary_b _ c1) (Nat.le_of_ble_eq_true rfl) ?_
      show Ex qm_lay _ mX6_valueOf 77 [some (.ref 4), some (.ref p), some (.int (nI a)), some (.int (nI (a + n))), some (.int (nI (g + 2))), some (.int (nI (a + k))), some (.int (nI c))] [.int 0] σ1 _ _
      refine ex_if_eq (q := 114) (q2 := 80) dX6_valueOf_77 rfl rfl (fun _ => ?_) (fun hh => absurd (by decide) hh)
      refine ex_iload dX6_valueOf_114 rfl rfl ?_
      refine ex_iconst (x := 2) dX6_valueOf_116 rfl rfl ?_
      refine ex_icmp_ge (q := 122) (q2 := 120) dX6_valueOf_117 rfl rfl (fun _ => ?_) (fun hh => absurd (nI_le (a := 2) (b := (g + 2)) (by omega) (by omega)) hh)
      refine ex_iinc (y := nI (g + 1)) (ls' := [some (.ref 4), some (.ref p), some (.int (nI a)), some (.int (nI (a + n))), some (.int (nI (g + 1))), some (.int (nI (a + k))), some (.int (nI c))]) dX6_valueOf_122 rfl rfl rfl (pk_m1 (g + 1)) rfl ?_
      refine ex_aload_n dX6_valueOf_125 rfl rfl ?_
      refine ex_getR (b := 7) dX6_valueOf_126 rfl qp_5_33 rfl rfl ?_
      refine ex_iload dX6_valueOf_129 rfl rfl ?_
      refine ex_iconst (x := 1) dX6_valueOf_131 rfl rfl ?_
      refine ex_isub (z := nI g) dX6_valueOf_132 rfl (nI_pred g) ?_
      refine ex_iload dX6_valueOf_133 rfl rfl ?_
      refine ex_aload_n dX6_valueOf_135 rfl rfl ?_
      refine ex_getR (b := 7) dX6_valueOf_136 rfl qp_5_33 rfl rfl ?_
      refine ex_iload dX6_valueOf_139 rfl rfl ?_
      refine ex_iconst (x := 1) dX6_valueOf_141 rfl rfl ?_
      refine ex_isub (z := nI g) dX6_valueOf_142 rfl (nI_pred g) ?_
      refine ex_iaload (k := g) (x := s g) dX6_valueOf_143 rfl rfl (rfl) (by omega) (by decide) ((hs1 g (by show g < g + 2; omega))) ?_
      refine ex_aload_n dX6_valueOf_144 rfl rfl ?_
      refine ex_getR (b := 7) dX6_valueOf_145 rfl qp_5_33 rfl rfl ?_
      refine ex_iload dX6_valueOf_148 rfl rfl ?_
      refine ex_iaload (k := g + 1) (x := s (g + 1)) dX6_valueOf_150 rfl rfl (rfl) (by omega) (by decide) ((hs1 (g + 1) (by show g + 1 < g + 2; omega))) ?_
      refine ex_callS (rest := [.int (nI g), .ref 7]) dX6_valueOf_151 rfl qp_5_120 rfl rfl rfl (Nat.le_of_ble_eq_true rfl) (c_binary _ (s g) (s (g + 1)) c1) (Nat.le_of_ble_eq_true rfl) ?_
      show Ex qm_lay _ mX6_valueOf 154 [some (.ref 4), some (.ref p), some (.int (nI a)), some (.int (nI (a + n))), some (.int (nI (g + 1))), some (.int (nI (a + k))), some (.int (nI c))] [.int (sx_bin c (s g) (s (g + 1))), .int (nI g), .ref 7] σ1 _ _
      refine ex_iastore (k := g) (σ' := qm_wF σ1 5 g (sx_bin c (s g) (s (g + 1)))) dX6_valueOf_154 rfl rfl (rfl) (by omega) (by decide) rfl ?_
      refine ex_iinc (y := nI ((a + k) + 1)) (ls' := [some (.ref 4), some (.ref p), some (.int (nI a)), some (.int (nI (a + n))), some (.int (nI (g + 1))), some (.int (nI ((a + k) + 1))), some (.int (nI c))]) dX6_valueOf_155 rfl rfl rfl (nI_add (a + k) 1) rfl ?_
      refine ex_goto (q := 6) dX6_valueOf_158 rfl ?_
      exact hE

set_option maxHeartbeats 2000000 in
theorem l_saysM {σ : qm_St} {f : Nat → Nat} {a n w part : Nat} {nm : Nat → Int32} (hw : w < 6) (hpt : part < 3) (hw31 : qm_rI σ 31 = nI w) (hend : qm_rF σ 49 (4 * w + part + 1) = nI (a + n)) (hf : ∀ k, k < n → qm_rF σ 48 (200 * w + (a + k)) = nI (gx_m (f (a + k)))) (hnm : ∀ i, i < 6 → qm_rF σ 58 i = nm i) (hn : a + n ≤ 160) (hh : gx_hs f a n = some 1) : ∀ (r k : Nat) (x : Option Value) (σ1 : qm_St) (h : Nat), k + r = n → gx_hs f a k = some h → KS σ1 57 (sx_run nm f a k) → sm σ σ1 36 36 57 58 → ∃ σ', Ex qm_lay 5 mX9_says 16 [some (.ref 55), some (.int (nI part)), some (.int (nI h)), some (.int (nI (a + k))), x] [] σ1 (some (.int ((sx_run nm f a n).2 0))) σ' ∧ sm σ σ' 36 36 57 58 := by
  intro r
  induction r with
  | zero =>
    intro k x σ1 h hk e hs1 hs
    have ek : k = n := by omega
    subst ek
    obtain ⟨h1, h2⟩ := gx_hs_run nm f a k h e
    have hpos : h = 1 := by rw [hh] at e; exact (Option.some.inj e).symm
    refine ⟨σ1, ?_, hs⟩
    refine ex_iload_n dX9_says_16 rfl rfl ?_
    refine ex_aload_n dX9_says_17 rfl rfl ?_
    refine ex_getR (b := 63) dX9_says_18 rfl qp_8_31 rfl rfl ?_
    refine ex_iconst (x := 4) dX9_says_21 rfl rfl ?_
    refine ex_aload_n dX9_says_22 rfl rfl ?_
    refine ex_getI (s := 31) (x := nI w) dX9_says_23 rfl qp_8_108 rfl rfl ((by rw [hs.1 _ (by omega)]; exact hw31)) ?_
    refine ex_imul (z := nI (4 * w)) dX9_says_26 rfl (pk_mul 4 w) ?_
    refine ex_iload_n dX9_says_27 rfl rfl ?_
    refine ex_iadd (z := nI ((4 * w) + part)) dX9_says_28 rfl (nI_add (4 * w) part) ?_
    refine ex_iconst (x := 1) dX9_says_29 rfl rfl ?_
    refine ex_iadd (z := nI (((4 * w) + part) + 1)) dX9_says_30 rfl (nI_add ((4 * w) + part) 1) ?_
    refine ex_iaload (k := ((4 * w) + part) + 1) (x := nI (a + k)) dX9_says_31 rfl rfl (rfl) (by omega) (by decide) ((by rw [hs.2 _ (by omega)]; exact hend)) ?_
    refine ex_icmp_ge (q := 197) (q2 := 35) dX9_says_32 rfl rfl (fun _ => ?_) (fun hh => absurd (nI_le (by omega) (by omega)) hh)
    refine ex_aload_n dX9_says_197 rfl rfl ?_
    refine ex_getR (b := 71) dX9_says_198 rfl qp_8_55 rfl rfl ?_
    refine ex_iconst (x := 0) dX9_says_201 rfl rfl ?_
    refine ex_iaload (k := 0) (x := (sx_run nm f a k).2 0) dX9_says_202 rfl rfl (rfl) (by omega) (by decide) ((hs1 0 (by rw [h1, hpos]; decide))) ?_
    exact ex_iret dX9_says_203 rfl rfl rfl
  | succ r ih =>
    intro k x σ1 h hk e hs1 hs
    obtain ⟨h', e'⟩ := gx_hs_pre f a n (k + 1) 1 (by omega) hh
    have e3 : gx_h (f (a + k)) h = some h' := by rw [gx_hs, e] at e'; exact e'
    obtain ⟨h1, h2⟩ := gx_hs_run nm f a k h e
    have hE1 : sx_run nm f a k = (h, (sx_run nm f a k).2) := by rw [← h1]
    rw [hE1] at hs1
    have hst : sx_run nm f a (k + 1) = sx_step nm (f (a + k)) (h, (sx_run nm f a k).2) := by rw [sx_run, ← hE1]
    obtain ⟨s, hs0⟩ : ∃ s, s = (sx_run nm f a k).2 := ⟨_, rfl⟩
    rw [← hs0] at hs1 hst
    have hfk := hf k (by omega)
    obtain ⟨c, hc⟩ : ∃ c, c = f (a + k) := ⟨_, rfl⟩
    rw [← hc] at e3 hst hfk
    rcases gx_h_cs e3 with ⟨c1, c2, c3⟩ | ⟨j, c1, c2, c3, c4⟩ | ⟨c1, g, c2, c3⟩ | ⟨c1, g, c2, c3⟩ | ⟨c1, g, c2, c3⟩
    · have hm : gx_m c = 100000 + c := if_pos c1
      rw [hm] at hfk
      have hq : sx_run nm f a (k + 1) = (h + 1, upd s (h) (nI c)) := by rw [hst]; rw [sx_step, if_pos c1]
      obtain ⟨σ', hE, hs2⟩ := ih (k + 1) (some (.int (nI (100000 + c)))) (qm_wF σ1 57 (h) (nI c)) (h + 1) (by omega) (by rw [e', c3]) (by rw [hq]; exact hs1.set _ _ _ (by omega)) (hs.wF _ (by omega))
      refine ⟨σ', ?_, hs2⟩
      refine ex_iload_n dX9_says_16 rfl rfl ?_
      refine ex_aload_n dX9_says_17 rfl rfl ?_
      refine ex_getR (b := 63) dX9_says_18 rfl qp_8_31 rfl rfl ?_
      refine ex_iconst (x := 4) dX9_says_21 rfl rfl ?_
      refine ex_aload_n dX9_says_22 rfl rfl ?_
      refine ex_getI (s := 31) (x := nI w) dX9_says_23 rfl qp_8_108 rfl rfl ((by rw [hs.1 _ (by omega)]; exact hw31)) ?_
      refine ex_imul (z := nI (4 * w)) dX9_says_26 rfl (pk_mul 4 w) ?_
      refine ex_iload_n dX9_says_27 rfl rfl ?_
      refine ex_iadd (z := nI ((4 * w) + part)) dX9_says_28 rfl (nI_add (4 * w) part) ?_
      refine ex_iconst (x := 1) dX9_says_29 rfl rfl ?_
      refine ex_iadd (z := nI (((4 * w) + part) + 1)) dX9_says_30 rfl (nI_add ((4 * w) + part) 1) ?_
      refine ex_iaload (k := ((4 * w) + part) + 1) (x := nI (a + n)) dX9_says_31 rfl rfl (rfl) (by omega) (by decide) ((by rw [hs.2 _ (by omega)]; exact hend)) ?_
      refine ex_icmp_ge (q := 197) (q2 := 35) dX9_says_32 rfl rfl (fun hh => absurd hh (nI_ge (by omega) (by omega))) (fun _ => ?_)
      refine ex_aload_n dX9_says_35 rfl rfl ?_
      refine ex_getR (b := 62) dX9_says_36 rfl qp_8_28 rfl rfl ?_
      refine ex_sipush (x := 200) dX9_says_39 rfl rfl ?_
      refine ex_aload_n dX9_says_42 rfl rfl ?_
      refine ex_getI (s := 31) (x := nI w) dX9_says_43 rfl qp_8_108 rfl rfl ((by rw [hs.1 _ (by omega)]; exact hw31)) ?_
      refine ex_imul (z := nI (200 * w)) dX9_says_46 rfl (pk_mul 200 w) ?_
      refine ex_iload_n dX9_says_47 rfl rfl ?_
      refine ex_iadd (z := nI ((200 * w) + (a + k))) dX9_says_48 rfl (nI_add (200 * w) (a + k)) ?_
      refine ex_iaload (k := (200 * w) + (a + k)) (x := nI (100000 + c)) dX9_says_49 rfl rfl (rfl) (by omega) (by decide) ((by rw [hs.2 _ (by omega)]; exact hfk)) ?_
      refine ex_istore (ls' := [some (.ref 55), some (.int (nI part)), some (.int (nI h)), some (.int (nI (a + k))), some (.int (nI (100000 + c)))]) dX9_says_50 rfl (Nat.le_of_ble_eq_true rfl) rfl rfl ?_
      refine ex_iload dX9_says_52 rfl rfl ?_
      refine ex_ldc (x := 100000) dX9_says_54 rfl qp_8_155 ?_
      refine ex_icmp_ge (q := 66) (q2 := 59) dX9_says_56 rfl rfl (fun _ => ?_) (fun hh => absurd (nI_le (a := 100000) (b := (100000 + c)) (by omega) (by omega)) hh)
      refine ex_aload_n dX9_says_66 rfl rfl ?_
      refine ex_getR (b := 71) dX9_says_67 rfl qp_8_55 rfl rfl ?_
      refine ex_iload_n dX9_says_70 rfl rfl ?_
      refine ex_iload dX9_says_71 rfl rfl ?_
      refine ex_bipush (x := 11) dX9_says_73 rfl rfl ?_
      refine ex_icmp_ge (q := 88) (q2 := 78) dX9_says_75 rfl rfl (fun _ => ?_) (fun hh => absurd (nI_le (a := 11) (b := (100000 + c)) (by omega) (by omega)) hh)
      refine ex_iload dX9_says_88 rfl rfl ?_
      refine ex_ldc (x := 100000) dX9_says_90 rfl qp_8_155 ?_
      refine ex_isub (z := nI c) dX9_says_92 rfl ((pk_sub (a := 100000 + c) (b := 100000) (by omega)).trans (by rw [Nat.add_sub_cancel_left])) ?_
      refine ex_iastore (k := h) (σ' := qm_wF σ1 57 h (nI c)) dX9_says_93 rfl rfl (rfl) (by omega) (by decide) rfl ?_
      refine ex_iinc (y := nI (h + 1)) (ls' := [some (.ref 55), some (.int (nI part)), some (.int (nI (h + 1))), some (.int (nI (a + k))), some (.int (nI (100000 + c)))]) dX9_says_94 rfl rfl rfl (nI_add h 1) rfl ?_
      refine ex_goto (q := 191) dX9_says_97 rfl ?_
      refine ex_iinc (y := nI ((a + k) + 1)) (ls' := [some (.ref 55), some (.int (nI part)), some (.int (nI (h + 1))), some (.int (nI ((a + k) + 1))), some (.int (nI (100000 + c)))]) dX9_says_191 rfl rfl rfl (nI_add (a + k) 1) rfl ?_
      refine ex_goto (q := 16) dX9_says_194 rfl ?_
      exact hE
    · subst c1
      have hm : gx_m (10000 + j) = j := (if_neg (by omega)).trans ((if_pos (by omega)).trans (Nat.add_sub_cancel_left 10000 j))
      rw [hm] at hfk
      have hq : sx_run nm f a (k + 1) = (h + 1, upd s (h) (nm j)) := by rw [hst]; rw [sx_step, if_neg (by omega), if_pos (by omega)]; show (h + 1, upd s h (nm (10000 + j - 10000))) = _; rw [Nat.add_sub_cancel_left]
      obtain ⟨σ', hE, hs2⟩ := ih (k + 1) (some (.int (nI j))) (qm_wF σ1 57 (h) (nm j)) (h + 1) (by omega) (by rw [e', c4]) (by rw [hq]; exact hs1.set _ _ _ (by omega)) (hs.wF _ (by omega))
      refine ⟨σ', ?_, hs2⟩
      refine ex_iload_n dX9_says_16 rfl rfl ?_
      refine ex_aload_n dX9_says_17 rfl rfl ?_
      refine ex_getR (b := 63) dX9_says_18 rfl qp_8_31 rfl rfl ?_
      refine ex_iconst (x := 4) dX9_says_21 rfl rfl ?_
      refine ex_aload_n dX9_says_22 rfl rfl ?_
      refine ex_getI (s := 31) (x := nI w) dX9_says_23 rfl qp_8_108 rfl rfl ((by rw [hs.1 _ (by omega)]; exact hw31)) ?_
      refine ex_imul (z := nI (4 * w)) dX9_says_26 rfl (pk_mul 4 w) ?_
      refine ex_iload_n dX9_says_27 rfl rfl ?_
      refine ex_iadd (z := nI ((4 * w) + part)) dX9_says_28 rfl (nI_add (4 * w) part) ?_
      refine ex_iconst (x := 1) dX9_says_29 rfl rfl ?_
      refine ex_iadd (z := nI (((4 * w) + part) + 1)) dX9_says_30 rfl (nI_add ((4 * w) + part) 1) ?_
      refine ex_iaload (k := ((4 * w) + part) + 1) (x := nI (a + n)) dX9_says_31 rfl rfl (rfl) (by omega) (by decide) ((by rw [hs.2 _ (by omega)]; exact hend)) ?_
      refine ex_icmp_ge (q := 197) (q2 := 35) dX9_says_32 rfl rfl (fun hh => absurd hh (nI_ge (by omega) (by omega))) (fun _ => ?_)
      refine ex_aload_n dX9_says_35 rfl rfl ?_
      refine ex_getR (b := 62) dX9_says_36 rfl qp_8_28 rfl rfl ?_
      refine ex_sipush (x := 200) dX9_says_39 rfl rfl ?_
      refine ex_aload_n dX9_says_42 rfl rfl ?_
      refine ex_getI (s := 31) (x := nI w) dX9_says_43 rfl qp_8_108 rfl rfl ((by rw [hs.1 _ (by omega)]; exact hw31)) ?_
      refine ex_imul (z := nI (200 * w)) dX9_says_46 rfl (pk_mul 200 w) ?_
      refine ex_iload_n dX9_says_47 rfl rfl ?_
      refine ex_iadd (z := nI ((200 * w) + (a + k))) dX9_says_48 rfl (nI_add (200 * w) (a + k)) ?_
      refine ex_iaload (k := (200 * w) + (a + k)) (x := nI j) dX9_says_49 rfl rfl (rfl) (by omega) (by decide) ((by rw [hs.2 _ (by omega)]; exact hfk)) ?_
      refine ex_istore (ls' := [some (.ref 55), some (.int (nI part)), some (.int (nI h)), some (.int (nI (a + k))), some (.int (nI j))]) dX9_says_50 rfl (Nat.le_of_ble_eq_true rfl) rfl rfl ?_
      refine ex_iload dX9_says_52 rfl rfl ?_
      refine ex_ldc (x := 100000) dX9_says_54 rfl qp_8_155 ?_
      refine ex_icmp_ge (q := 66) (q2 := 59) dX9_says_56 rfl rfl (fun hh => absurd hh (nI_ge (a := j) (b := 100000) (by omega) (by omega))) (fun _ => ?_)
      refine ex_iload dX9_says_59 rfl rfl ?_
      refine ex_bipush (x := 11) dX9_says_61 rfl rfl ?_
      refine ex_icmp_ge (q := 100) (q2 := 66) dX9_says_63 rfl rfl (fun hh => absurd hh (nI_ge (a := j) (b := 11) (by omega) (by omega))) (fun _ => ?_)
      refine ex_aload_n dX9_says_66 rfl rfl ?_
      refine ex_getR (b := 71) dX9_says_67 rfl qp_8_55 rfl rfl ?_
      refine ex_iload_n dX9_says_70 rfl rfl ?_
      refine ex_iload dX9_says_71 rfl rfl ?_
      refine ex_bipush (x := 11) dX9_says_73 rfl rfl ?_
      refine ex_icmp_ge (q := 88) (q2 := 78) dX9_says_75 rfl rfl (fun hh => absurd hh (nI_ge (a := j) (b := 11) (by omega) (by omega))) (fun _ => ?_)
      refine ex_aload_n dX9_says_78 rfl rfl ?_
      refine ex_getR (b := 72) dX9_says_79 rfl qp_8_58 rfl rfl ?_
      refine ex_iload dX9_says_82 rfl rfl ?_
      refine ex_iaload (k := j) (x := nm j) dX9_says_84 rfl rfl (rfl) (by omega) (by decide) ((by rw [rF_same hs (by omega)]; exact hnm j c2)) ?_
      refine ex_goto (q := 93) dX9_says_85 rfl ?_
      refine ex_iastore (k := h) (σ' := qm_wF σ1 57 h (nm j)) dX9_says_93 rfl rfl (rfl) (by omega) (by decide) rfl ?_
      refine ex_iinc (y := nI (h + 1)) (ls' := [some (.ref 55), some (.int (nI part)), some (.int (nI (h + 1))), some (.int (nI (a + k))), some (.int (nI j))]) dX9_says_94 rfl rfl rfl (nI_add h 1) rfl ?_
      refine ex_goto (q := 191) dX9_says_97 rfl ?_
      refine ex_iinc (y := nI ((a + k) + 1)) (ls' := [some (.ref 55), some (.int (nI part)), some (.int (nI (h + 1))), some (.int (nI ((a + k) + 1))), some (.int (nI j))]) dX9_says_191 rfl rfl rfl (nI_add (a + k) 1) rfl ?_
      refine ex_goto (q := 16) dX9_says_194 rfl ?_
      exact hE
    · subst c1
      subst c2
      by_cases hg : s g = 0
      · have hq : sx_run nm f a (k + 1) = (g + 1, upd s (g) (1)) := by rw [hst]; simp only [sx_step]; rw [if_pos (show s (g + 1 - 1) = 0 from hg)]; rfl
        obtain ⟨σ', hE, hs2⟩ := ih (k + 1) (some (.int 13)) (qm_wF σ1 57 (g) (1)) (g + 1) (by omega) (by rw [e', c3]) (by rw [hq]; exact hs1.set _ _ _ (by omega)) (hs.wF _ (by omega))
        refine ⟨σ', ?_, hs2⟩
        refine ex_iload_n dX9_says_16 rfl rfl ?_
        refine ex_aload_n dX9_says_17 rfl rfl ?_
        refine ex_getR (b := 63) dX9_says_18 rfl qp_8_31 rfl rfl ?_
        refine ex_iconst (x := 4) dX9_says_21 rfl rfl ?_
        refine ex_aload_n dX9_says_22 rfl rfl ?_
        refine ex_getI (s := 31) (x := nI w) dX9_says_23 rfl qp_8_108 rfl rfl ((by rw [hs.1 _ (by omega)]; exact hw31)) ?_
        refine ex_imul (z := nI (4 * w)) dX9_says_26 rfl (pk_mul 4 w) ?_
        refine ex_iload_n dX9_says_27 rfl rfl ?_
        refine ex_iadd (z := nI ((4 * w) + part)) dX9_says_28 rfl (nI_add (4 * w) part) ?_
        refine ex_iconst (x := 1) dX9_says_29 rfl rfl ?_
        refine ex_iadd (z := nI (((4 * w) + part) + 1)) dX9_says_30 rfl (nI_add ((4 * w) + part) 1) ?_
        refine ex_iaload (k := ((4 * w) + part) + 1) (x := nI (a + n)) dX9_says_31 rfl rfl (rfl) (by omega) (by decide) ((by rw [hs.2 _ (by omega)]; exact hend)) ?_
        refine ex_icmp_ge (q := 197) (q2 := 35) dX9_says_32 rfl rfl (fun hh => absurd hh (nI_ge (by omega) (by omega))) (fun _ => ?_)
        refine ex_aload_n dX9_says_35 rfl rfl ?_
        refine ex_getR (b := 62) dX9_says_36 rfl qp_8_28 rfl rfl ?_
        refine ex_sipush (x := 200) dX9_says_39 rfl rfl ?_
        refine ex_aload_n dX9_says_42 rfl rfl ?_
        refine ex_getI (s := 31) (x := nI w) dX9_says_43 rfl qp_8_108 rfl rfl ((by rw [hs.1 _ (by omega)]; exact hw31)) ?_
        refine ex_imul (z := nI (200 * w)) dX9_says_46 rfl (pk_mul 200 w) ?_
        refine ex_iload_n dX9_says_47 rfl rfl ?_
        refine ex_iadd (z := nI ((200 * w) + (a + k))) dX9_says_48 rfl (nI_add (200 * w) (a + k)) ?_
        refine ex_iaload (k := (200 * w) + (a + k)) (x := 13) dX9_says_49 rfl rfl (rfl) (by omega) (by decide) ((by rw [hs.2 _ (by omega)]; exact hfk)) ?_
        refine ex_istore (ls' := [some (.ref 55), some (.int (nI part)), some (.int (nI (g + 1))), some (.int (nI (a + k))), some (.int 13)]) dX9_says_50 rfl (Nat.le_of_ble_eq_true rfl) rfl rfl ?_
        refine ex_iload dX9_says_52 rfl rfl ?_
        refine ex_ldc (x := 100000) dX9_says_54 rfl qp_8_155 ?_
        refine ex_icmp_ge (q := 66) (q2 := 59) dX9_says_56 rfl rfl (fun hh => absurd hh (by decide)) (fun _ => ?_)
        refine ex_iload dX9_says_59 rfl rfl ?_
        refine ex_bipush (x := 11) dX9_says_61 rfl rfl ?_
        refine ex_icmp_ge (q := 100) (q2 := 66) dX9_says_63 rfl rfl (fun _ => ?_) (fun hh => absurd (by decide) hh)
        refine ex_iload dX9_says_100 rfl rfl ?_
        refine ex_bipush (x := 13) dX9_says_102 rfl rfl ?_
        refine ex_icmp_ne (q := 134) (q2 := 107) dX9_says_104 rfl rfl (fun hh => absurd hh (by decide)) (fun _ => ?_)
        refine ex_aload_n dX9_says_107 rfl rfl ?_
        refine ex_getR (b := 71) dX9_says_108 rfl qp_8_55 rfl rfl ?_
        refine ex_iload_n dX9_says_111 rfl rfl ?_
        refine ex_iconst (x := 1) dX9_says_112 rfl rfl ?_
        refine ex_isub (z := nI g) dX9_says_113 rfl (nI_pred g) ?_
        refine ex_aload_n dX9_says_114 rfl rfl ?_
        refine ex_getR (b := 71) dX9_says_115 rfl qp_8_55 rfl rfl ?_
        refine ex_iload_n dX9_says_118 rfl rfl ?_
        refine ex_iconst (x := 1) dX9_says_119 rfl rfl ?_
        refine ex_isub (z := nI g) dX9_says_120 rfl (nI_pred g) ?_
        refine ex_iaload (k := g) (x := s g) dX9_says_121 rfl rfl (rfl) (by omega) (by decide) ((hs1 g (Nat.lt_succ_self g))) ?_
        refine ex_if_ne (q := 129) (q2 := 125) dX9_says_122 rfl rfl (fun hh => absurd hh (fun zz => zz hg)) (fun _ => ?_)
        refine ex_iconst (x := 1) dX9_says_125 rfl rfl ?_
        refine ex_goto (q := 130) dX9_says_126 rfl ?_
        refine ex_iastore (k := g) (σ' := qm_wF σ1 57 g 1) dX9_says_130 rfl rfl (rfl) (by omega) (by decide) rfl ?_
        refine ex_goto (q := 191) dX9_says_131 rfl ?_
        refine ex_iinc (y := nI ((a + k) + 1)) (ls' := [some (.ref 55), some (.int (nI part)), some (.int (nI (g + 1))), some (.int (nI ((a + k) + 1))), some (.int 13)]) dX9_says_191 rfl rfl rfl (nI_add (a + k) 1) rfl ?_
        refine ex_goto (q := 16) dX9_says_194 rfl ?_
        exact hE
      · have hq : sx_run nm f a (k + 1) = (g + 1, upd s (g) (0)) := by rw [hst]; simp only [sx_step]; rw [if_neg (show ¬ s (g + 1 - 1) = 0 from hg)]; rfl
        obtain ⟨σ', hE, hs2⟩ := ih (k + 1) (some (.int 13)) (qm_wF σ1 57 (g) (0)) (g + 1) (by omega) (by rw [e', c3]) (by rw [hq]; exact hs1.set _ _ _ (by omega)) (hs.wF _ (by omega))
        refine ⟨σ', ?_, hs2⟩
        refine ex_iload_n dX9_says_16 rfl rfl ?_
        refine ex_aload_n dX9_says_17 rfl rfl ?_
        refine ex_getR (b := 63) dX9_says_18 rfl qp_8_31 rfl rfl ?_
        refine ex_iconst (x := 4) dX9_says_21 rfl rfl ?_
        refine ex_aload_n dX9_says_22 rfl rfl ?_
        refine ex_getI (s := 31) (x := nI w) dX9_says_23 rfl qp_8_108 rfl rfl ((by rw [hs.1 _ (by omega)]; exact hw31)) ?_
        refine ex_imul (z := nI (4 * w)) dX9_says_26 rfl (pk_mul 4 w) ?_
        refine ex_iload_n dX9_says_27 rfl rfl ?_
        refine ex_iadd (z := nI ((4 * w) + part)) dX9_says_28 rfl (nI_add (4 * w) part) ?_
        refine ex_iconst (x := 1) dX9_says_29 rfl rfl ?_
        refine ex_iadd (z := nI (((4 * w) + part) + 1)) dX9_says_30 rfl (nI_add ((4 * w) + part) 1) ?_
        refine ex_iaload (k := ((4 * w) + part) + 1) (x := nI (a + n)) dX9_says_31 rfl rfl (rfl) (by omega) (by decide) ((by rw [hs.2 _ (by omega)]; exact hend)) ?_
        refine ex_icmp_ge (q := 197) (q2 := 35) dX9_says_32 rfl rfl (fun hh => absurd hh (nI_ge (by omega) (by omega))) (fun _ => ?_)
        refine ex_aload_n dX9_says_35 rfl rfl ?_
        refine ex_getR (b := 62) dX9_says_36 rfl qp_8_28 rfl rfl ?_
        refine ex_sipush (x := 200) dX9_says_39 rfl rfl ?_
        refine ex_aload_n dX9_says_42 rfl rfl ?_
        refine ex_getI (s := 31) (x := nI w) dX9_says_43 rfl qp_8_108 rfl rfl ((by rw [hs.1 _ (by omega)]; exact hw31)) ?_
        refine ex_imul (z := nI (200 * w)) dX9_says_46 rfl (pk_mul 200 w) ?_
        refine ex_iload_n dX9_says_47 rfl rfl ?_
        refine ex_iadd (z := nI ((200 * w) + (a + k))) dX9_says_48 rfl (nI_add (200 * w) (a + k)) ?_
        refine ex_iaload (k := (200 * w) + (a + k)) (x := 13) dX9_says_49 rfl rfl (rfl) (by omega) (by decide) ((by rw [hs.2 _ (by omega)]; exact hfk)) ?_
        refine ex_istore (ls' := [some (.ref 55), some (.int (nI part)), some (.int (nI (g + 1))), some (.int (nI (a + k))), some (.int 13)]) dX9_says_50 rfl (Nat.le_of_ble_eq_true rfl) rfl rfl ?_
        refine ex_iload dX9_says_52 rfl rfl ?_
        refine ex_ldc (x := 100000) dX9_says_54 rfl qp_8_155 ?_
        refine ex_icmp_ge (q := 66) (q2 := 59) dX9_says_56 rfl rfl (fun hh => absurd hh (by decide)) (fun _ => ?_)
        refine ex_iload dX9_says_59 rfl rfl ?_
        refine ex_bipush (x := 11) dX9_says_61 rfl rfl ?_
        refine ex_icmp_ge (q := 100) (q2 := 66) dX9_says_63 rfl rfl (fun _ => ?_) (fun hh => absurd (by decide) hh)
        refine ex_iload dX9_says_100 rfl rfl ?_
        refine ex_bipush (x := 13) dX9_says_102 rfl rfl ?_
        refine ex_icmp_ne (q := 134) (q2 := 107) dX9_says_104 rfl rfl (fun hh => absurd hh (by decide)) (fun _ => ?_)
        refine ex_aload_n dX9_says_107 rfl rfl ?_
        refine ex_getR (b := 71) dX9_says_108 rfl qp_8_55 rfl rfl ?_
        refine ex_iload_n dX9_says_111 rfl rfl ?_
        refine ex_iconst (x := 1) dX9_says_112 rfl rfl ?_
        refine ex_isub (z := nI g) dX9_says_113 rfl (nI_pred g) ?_
        refine ex_aload_n dX9_says_114 rfl rfl ?_
        refine ex_getR (b := 71) dX9_says_115 rfl qp_8_55 rfl rfl ?_
        refine ex_iload_n dX9_says_118 rfl rfl ?_
        refine ex_iconst (x := 1) dX9_says_119 rfl rfl ?_
        refine ex_isub (z := nI g) dX9_says_120 rfl (nI_pred g) ?_
        refine ex_iaload (k := g) (x := s g) dX9_says_121 rfl rfl (rfl) (by omega) (by decide) ((hs1 g (Nat.lt_succ_self g))) ?_
        refine ex_if_ne (q := 129) (q2 := 125) dX9_says_122 rfl rfl (fun _ => ?_) (fun hh => absurd (hg) hh)
        refine ex_iconst (x := 0) dX9_says_129 rfl rfl ?_
        refine ex_iastore (k := g) (σ' := qm_wF σ1 57 g 0) dX9_says_130 rfl rfl (rfl) (by omega) (by decide) rfl ?_
        refine ex_goto (q := 191) dX9_says_131 rfl ?_
        refine ex_iinc (y := nI ((a + k) + 1)) (ls' := [some (.ref 55), some (.int (nI part)), some (.int (nI (g + 1))), some (.int (nI ((a + k) + 1))), some (.int 13)]) dX9_says_191 rfl rfl rfl (nI_add (a + k) 1) rfl ?_
        refine ex_goto (q := 16) dX9_says_194 rfl ?_
        exact hE
    · subst c1
      subst c2
      have hq : sx_run nm f a (k + 1) = (g + 1, upd s (g) (-(s g))) := by rw [hst]; simp only [sx_step]; rfl
      obtain ⟨σ', hE, hs2⟩ := ih (k + 1) (some (.int 19)) (qm_wF σ1 57 (g) (-(s g))) (g + 1) (by omega) (by rw [e', c3]) (by rw [hq]; exact hs1.set _ _ _ (by omega)) (hs.wF _ (by omega))
      refine ⟨σ', ?_, hs2⟩
      refine ex_iload_n dX9_says_16 rfl rfl ?_
      refine ex_aload_n dX9_says_17 rfl rfl ?_
      refine ex_getR (b := 63) dX9_says_18 rfl qp_8_31 rfl rfl ?_
      refine ex_iconst (x := 4) dX9_says_21 rfl rfl ?_
      refine ex_aload_n dX9_says_22 rfl rfl ?_
      refine ex_getI (s := 31) (x := nI w) dX9_says_23 rfl qp_8_108 rfl rfl ((by rw [hs.1 _ (by omega)]; exact hw31)) ?_
      refine ex_imul (z := nI (4 * w)) dX9_says_26 rfl (pk_mul 4 w) ?_
      refine ex_iload_n dX9_says_27 rfl rfl ?_
      refine ex_iadd (z := nI ((4 * w) + part)) dX9_says_28 rfl (nI_add (4 * w) part) ?_
      refine ex_iconst (x := 1) dX9_says_29 rfl rfl ?_
      refine ex_iadd (z := nI (((4 * w) + part) + 1)) dX9_says_30 rfl (nI_add ((4 * w) + part) 1) ?_
      refine ex_iaload (k := ((4 * w) + part) + 1) (x := nI (a + n)) dX9_says_31 rfl rfl (rfl) (by omega) (by decide) ((by rw [hs.2 _ (by omega)]; exact hend)) ?_
      refine ex_icmp_ge (q := 197) (q2 := 35) dX9_says_32 rfl rfl (fun hh => absurd hh (nI_ge (by omega) (by omega))) (fun _ => ?_)
      refine ex_aload_n dX9_says_35 rfl rfl ?_
      refine ex_getR (b := 62) dX9_says_36 rfl qp_8_28 rfl rfl ?_
      refine ex_sipush (x := 200) dX9_says_39 rfl rfl ?_
      refine ex_aload_n dX9_says_42 rfl rfl ?_
      refine ex_getI (s := 31) (x := nI w) dX9_says_43 rfl qp_8_108 rfl rfl ((by rw [hs.1 _ (by omega)]; exact hw31)) ?_
      refine ex_imul (z := nI (200 * w)) dX9_says_46 rfl (pk_mul 200 w) ?_
      refine ex_iload_n dX9_says_47 rfl rfl ?_
      refine ex_iadd (z := nI ((200 * w) + (a + k))) dX9_says_48 rfl (nI_add (200 * w) (a + k)) ?_
      refine ex_iaload (k := (200 * w) + (a + k)) (x := 19) dX9_says_49 rfl rfl (rfl) (by omega) (by decide) ((by rw [hs.2 _ (by omega)]; exact hfk)) ?_
      refine ex_istore (ls' := [some (.ref 55), some (.int (nI part)), some (.int (nI (g + 1))), some (.int (nI (a + k))), some (.int 19)]) dX9_says_50 rfl (Nat.le_of_ble_eq_true rfl) rfl rfl ?_
      refine ex_iload dX9_says_52 rfl rfl ?_
      refine ex_ldc (x := 100000) dX9_says_54 rfl qp_8_155 ?_
      refine ex_icmp_ge (q := 66) (q2 := 59) dX9_says_56 rfl rfl (fun hh => absurd hh (by decide)) (fun _ => ?_)
      refine ex_iload dX9_says_59 rfl rfl ?_
      refine ex_bipush (x := 11) dX9_says_61 rfl rfl ?_
      refine ex_icmp_ge (q := 100) (q2 := 66) dX9_says_63 rfl rfl (fun _ => ?_) (fun hh => absurd (by decide) hh)
      refine ex_iload dX9_says_100 rfl rfl ?_
      refine ex_bipush (x := 13) dX9_says_102 rfl rfl ?_
      refine ex_icmp_ne (q := 134) (q2 := 107) dX9_says_104 rfl rfl (fun _ => ?_) (fun hh => absurd (by decide) hh)
      refine ex_iload dX9_says_134 rfl rfl ?_
      refine ex_bipush (x := 19) dX9_says_136 rfl rfl ?_
      refine ex_icmp_ne (q := 161) (q2 := 141) dX9_says_138 rfl rfl (fun hh => absurd hh (by decide)) (fun _ => ?_)
      refine ex_aload_n dX9_says_141 rfl rfl ?_
      refine ex_getR (b := 71) dX9_says_142 rfl qp_8_55 rfl rfl ?_
      refine ex_iload_n dX9_says_145 rfl rfl ?_
      refine ex_iconst (x := 1) dX9_says_146 rfl rfl ?_
      refine ex_isub (z := nI g) dX9_says_147 rfl (nI_pred g) ?_
      refine ex_aload_n dX9_says_148 rfl rfl ?_
      refine ex_getR (b := 71) dX9_says_149 rfl qp_8_55 rfl rfl ?_
      refine ex_iload_n dX9_says_152 rfl rfl ?_
      refine ex_iconst (x := 1) dX9_says_153 rfl rfl ?_
      refine ex_isub (z := nI g) dX9_says_154 rfl (nI_pred g) ?_
      refine ex_iaload (k := g) (x := s g) dX9_says_155 rfl rfl (rfl) (by omega) (by decide) ((hs1 g (Nat.lt_succ_self g))) ?_
      refine ex_ineg (z := -(s g)) dX9_says_156 rfl (rfl) ?_
      refine ex_iastore (k := g) (σ' := qm_wF σ1 57 g (-(s g))) dX9_says_157 rfl rfl (rfl) (by omega) (by decide) rfl ?_
      refine ex_goto (q := 191) dX9_says_158 rfl ?_
      refine ex_iinc (y := nI ((a + k) + 1)) (ls' := [some (.ref 55), some (.int (nI part)), some (.int (nI (g + 1))), some (.int (nI ((a + k) + 1))), some (.int 19)]) dX9_says_191 rfl rfl rfl (nI_add (a + k) 1) rfl ?_
      refine ex_goto (q := 16) dX9_says_194 rfl ?_
      exact hE
    · subst c2
      have c20 : 20000 ≤ c ∧ c ≠ 20009 ∧ c ≠ 20010 := by omega
      have hm : gx_m c < 100 ∧ 11 ≤ gx_m c ∧ gx_m c ≠ 13 ∧ gx_m c ≠ 19 := by rcases c1 with rfl | rfl | rfl | rfl | rfl | rfl | rfl <;> decide
      have hq : sx_run nm f a (k + 1) = (g + 1, upd s (g) (sx_bin c (s g) (s (g + 1)))) := by rw [hst]; rw [sx_step, if_neg (by omega), if_neg (by omega), if_neg c20.2.1, if_neg c20.2.2]; rfl
      obtain ⟨σ', hE, hs2⟩ := ih (k + 1) (some (.int (nI (gx_m c)))) (qm_wF σ1 57 (g) (sx_bin c (s g) (s (g + 1)))) (g + 1) (by omega) (by rw [e', c3]) (by rw [hq]; exact hs1.set _ _ _ (by omega)) (hs.wF _ (by omega))
      refine ⟨σ', ?_, hs2⟩
      refine ex_iload_n dX9_says_16 rfl rfl ?_
      refine ex_aload_n dX9_says_17 rfl rfl ?_
      refine ex_getR (b := 63) dX9_says_18 rfl qp_8_31 rfl rfl ?_
      refine ex_iconst (x := 4) dX9_says_21 rfl rfl ?_
      refine ex_aload_n dX9_says_22 rfl rfl ?_
      refine ex_getI (s := 31) (x := nI w) dX9_says_23 rfl qp_8_108 rfl rfl ((by rw [hs.1 _ (by omega)]; exact hw31)) ?_
      refine ex_imul (z := nI (4 * w)) dX9_says_26 rfl (pk_mul 4 w) ?_
      refine ex_iload_n dX9_says_27 rfl rfl ?_
      refine ex_iadd (z := nI ((4 * w) + part)) dX9_says_28 rfl (nI_add (4 * w) part) ?_
      refine ex_iconst (x := 1) dX9_says_29 rfl rfl ?_
      refine ex_iadd (z := nI (((4 * w) + part) + 1)) dX9_says_30 rfl (nI_add ((4 * w) + part) 1) ?_
      refine ex_iaload (k := ((4 * w) + part) + 1) (x := nI (a + n)) dX9_says_31 rfl rfl (rfl) (by omega) (by decide) ((by rw [hs.2 _ (by omega)]; exact hend)) ?_
      refine ex_icmp_ge (q := 197) (q2 := 35) dX9_says_32 rfl rfl (fun hh => absurd hh (nI_ge (by omega) (by omega))) (fun _ => ?_)
      refine ex_aload_n dX9_says_35 rfl rfl ?_
      refine ex_getR (b := 62) dX9_says_36 rfl qp_8_28 rfl rfl ?_
      refine ex_sipush (x := 200) dX9_says_39 rfl rfl ?_
      refine ex_aload_n dX9_says_42 rfl rfl ?_
      refine ex_getI (s := 31) (x := nI w) dX9_says_43 rfl qp_8_108 rfl rfl ((by rw [hs.1 _ (by omega)]; exact hw31)) ?_
      refine ex_imul (z := nI (200 * w)) dX9_says_46 rfl (pk_mul 200 w) ?_
      refine ex_iload_n dX9_says_47 rfl rfl ?_
      refine ex_iadd (z := nI ((200 * w) + (a + k))) dX9_says_48 rfl (nI_add (200 * w) (a + k)) ?_
      refine ex_iaload (k := (200 * w) + (a + k)) (x := nI (gx_m c)) dX9_says_49 rfl rfl (rfl) (by omega) (by decide) ((by rw [hs.2 _ (by omega)]; exact hfk)) ?_
      refine ex_istore (ls' := [some (.ref 55), some (.int (nI part)), some (.int (nI (g + 2))), some (.int (nI (a + k))), some (.int (nI (gx_m c)))]) dX9_says_50 rfl (Nat.le_of_ble_eq_true rfl) rfl rfl ?_
      refine ex_iload dX9_says_52 rfl rfl ?_
      refine ex_ldc (x := 100000) dX9_says_54 rfl qp_8_155 ?_
      refine ex_icmp_ge (q := 66) (q2 := 59) dX9_says_56 rfl rfl (fun hh => absurd hh (nI_ge (a := (gx_m c)) (b := 100000) (by omega) (by omega))) (fun _ => ?_)
      refine ex_iload dX9_says_59 rfl rfl ?_
      refine ex_bipush (x := 11) dX9_says_61 rfl rfl ?_
      refine ex_icmp_ge (q := 100) (q2 := 66) dX9_says_63 rfl rfl (fun _ => ?_) (fun hh => absurd (nI_le (a := 11) (b := (gx_m c)) (by omega) (by omega)) hh)
      refine ex_iload dX9_says_100 rfl rfl ?_
      refine ex_bipush (x := 13) dX9_says_102 rfl rfl ?_
      refine ex_icmp_ne (q := 134) (q2 := 107) dX9_says_104 rfl rfl (fun _ => ?_) (fun hh => absurd (fun zz => absurd ((nI_eq (a := (gx_m c)) (b := 13) (by omega) (by omega)).mp zz) (by omega)) hh)
      refine ex_iload dX9_says_134 rfl rfl ?_
      refine ex_bipush (x := 19) dX9_says_136 rfl rfl ?_
      refine ex_icmp_ne (q := 161) (q2 := 141) dX9_says_138 rfl rfl (fun _ => ?_) (fun hh => absurd (fun zz => absurd ((nI_eq (a := (gx_m c)) (b := 19) (by omega) (by omega)).mp zz) (by omega)) hh)
      refine ex_iinc (y := nI (g + 1)) (ls' := [some (.ref 55), some (.int (nI part)), some (.int (nI (g + 1))), some (.int (nI (a + k))), some (.int (nI (gx_m c)))]) dX9_says_161 rfl rfl rfl (pk_m1 (g + 1)) rfl ?_
      refine ex_aload_n dX9_says_164 rfl rfl ?_
      refine ex_getR (b := 71) dX9_says_165 rfl qp_8_55 rfl rfl ?_
      refine ex_iload_n dX9_says_168 rfl rfl ?_
      refine ex_iconst (x := 1) dX9_says_169 rfl rfl ?_
      refine ex_isub (z := nI g) dX9_says_170 rfl (nI_pred g) ?_
      refine ex_iload dX9_says_171 rfl rfl ?_
      refine ex_aload_n dX9_says_173 rfl rfl ?_
      refine ex_getR (b := 71) dX9_says_174 rfl qp_8_55 rfl rfl ?_
      refine ex_iload_n dX9_says_177 rfl rfl ?_
      refine ex_iconst (x := 1) dX9_says_178 rfl rfl ?_
      refine ex_isub (z := nI g) dX9_says_179 rfl (nI_pred g) ?_
      refine ex_iaload (k := g) (x := s g) dX9_says_180 rfl rfl (rfl) (by omega) (by decide) ((hs1 g (by show g < g + 2; omega))) ?_
      refine ex_aload_n dX9_says_181 rfl rfl ?_
      refine ex_getR (b := 71) dX9_says_182 rfl qp_8_55 rfl rfl ?_
      refine ex_iload_n dX9_says_185 rfl rfl ?_
      refine ex_iaload (k := g + 1) (x := s (g + 1)) dX9_says_186 rfl rfl (rfl) (by omega) (by decide) ((hs1 (g + 1) (by show g + 1 < g + 2; omega))) ?_
      refine ex_callS (rest := [.int (nI g), .ref 71]) dX9_says_187 rfl qp_8_169 rfl rfl rfl (Nat.le_of_ble_eq_true rfl) (k_two _ (s g) (s (g + 1)) c1) (Nat.le_of_ble_eq_true rfl) ?_
      show Ex qm_lay _ mX9_says 190 [some (.ref 55), some (.int (nI part)), some (.int (nI (g + 1))), some (.int (nI (a + k))), some (.int (nI (gx_m c)))] [.int (sx_bin c (s g) (s (g + 1))), .int (nI g), .ref 71] σ1 _ _
      refine ex_iastore (k := g) (σ' := qm_wF σ1 57 g (sx_bin c (s g) (s (g + 1)))) dX9_says_190 rfl rfl (rfl) (by omega) (by decide) rfl ?_
      refine ex_iinc (y := nI ((a + k) + 1)) (ls' := [some (.ref 55), some (.int (nI part)), some (.int (nI (g + 1))), some (.int (nI ((a + k) + 1))), some (.int (nI (gx_m c)))]) dX9_says_191 rfl rfl rfl (nI_add (a + k) 1) rfl ?_
      refine ex_goto (q := 16) dX9_says_194 rfl ?_
      exact hE

theorem c_valueOf {σ : qm_St} {f : Nat → Nat} {a b n : Nat} (hb : b = a + n) {nm : Nat → Int32} {p jj : Nat} (hp : qm_lay[p]? = some (.inr (.inl (160, jj)))) (hjj : jj < 4 ∨ 6 ≤ jj) (hf : ∀ k, k < n → qm_rF σ jj (a + k) = nI (f (a + k))) (hnm : ∀ i, i < 6 → qm_rF σ 4 i = nm i) (hn : a + n ≤ 160) (hh : gx_hs f a n = some 1) : ∃ σ', Ok qm_lay 5 mX6_valueOf [.ref 4, .ref p, .int (nI a), .int (nI b)] σ (some (.int ((sx_run nm f a n).2 0))) σ' ∧ sm σ σ' 8 8 5 6 := by
  subst hb
  obtain ⟨σ', hE, hs⟩ := l_valueOf hp hjj hf hnm hn hh n 0 none σ 0 (by omega) rfl (fun i hi => absurd hi (Nat.not_lt_zero i)) (sm.rf _ _ _ _ _)
  refine ⟨σ', ?_, hs⟩
  refine Ok.of (ls := [some (.ref 4), some (.ref p), some (.int (nI a)), some (.int (nI (a + n))), none, none, none]) (Nat.le_of_ble_eq_true rfl) rfl ?_
  refine ex_iconst (x := 0) dX6_valueOf_0 rfl rfl ?_
  refine ex_istore (ls' := [some (.ref 4), some (.ref p), some (.int (nI a)), some (.int (nI (a + n))), some (.int 0), none, none]) dX6_valueOf_1 rfl (Nat.le_of_ble_eq_true rfl) rfl rfl ?_
  refine ex_iload_n dX6_valueOf_3 rfl rfl ?_
  refine ex_istore (ls' := [some (.ref 4), some (.ref p), some (.int (nI a)), some (.int (nI (a + n))), some (.int 0), some (.int (nI a)), none]) dX6_valueOf_4 rfl (Nat.le_of_ble_eq_true rfl) rfl rfl ?_
  exact hE

theorem k_says {σ : qm_St} {f : Nat → Nat} {a n w part : Nat} {nm : Nat → Int32} (hw : w < 6) (hpt : part < 3) (hw31 : qm_rI σ 31 = nI w) (ha : qm_rF σ 49 (4 * w + part) = nI a) (hend : qm_rF σ 49 (4 * w + part + 1) = nI (a + n)) (hf : ∀ k, k < n → qm_rF σ 48 (200 * w + (a + k)) = nI (gx_m (f (a + k)))) (hnm : ∀ i, i < 6 → qm_rF σ 58 i = nm i) (hn : a + n ≤ 160) (hh : gx_hs f a n = some 1) : ∃ σ', Ok qm_lay 5 mX9_says [.ref 55, .int (nI part)] σ (some (.int ((sx_run nm f a n).2 0))) σ' ∧ sm σ σ' 36 36 57 58 := by
  obtain ⟨σ', hE, hs⟩ := l_saysM hw hpt hw31 hend hf hnm hn hh n 0 none σ 0 (by omega) rfl (fun i hi => absurd hi (Nat.not_lt_zero i)) (sm.rf _ _ _ _ _)
  refine ⟨σ', ?_, hs⟩
  refine Ok.of (ls := [some (.ref 55), some (.int (nI part)), none, none, none]) (Nat.le_of_ble_eq_true rfl) rfl ?_
  refine ex_iconst (x := 0) dX9_says_0 rfl rfl ?_
  refine ex_istore_n (ls' := [some (.ref 55), some (.int (nI part)), some (.int 0), none, none]) dX9_says_1 rfl (Nat.le_of_ble_eq_true rfl) rfl rfl ?_
  refine ex_aload_n dX9_says_2 rfl rfl ?_
  refine ex_getR (b := 63) dX9_says_3 rfl qp_8_31 rfl rfl ?_
  refine ex_iconst (x := 4) dX9_says_6 rfl rfl ?_
  refine ex_aload_n dX9_says_7 rfl rfl ?_
  refine ex_getI (s := 31) (x := nI w) dX9_says_8 rfl qp_8_108 rfl rfl (hw31) ?_
  refine ex_imul (z := nI (4 * w)) dX9_says_11 rfl (pk_mul 4 w) ?_
  refine ex_iload_n dX9_says_12 rfl rfl ?_
  refine ex_iadd (z := nI ((4 * w) + part)) dX9_says_13 rfl (nI_add (4 * w) part) ?_
  refine ex_iaload (k := (4 * w) + part) (x := nI a) dX9_says_14 rfl rfl (rfl) (by omega) (by decide) (ha) ?_
  refine ex_istore_n (ls' := [some (.ref 55), some (.int (nI part)), some (.int 0), some (.int (nI a)), none]) dX9_says_15 rfl (Nat.le_of_ble_eq_true rfl) rfl rfl ?_
  exact hE

theorem gx_le {X : gx_T} (hX : gx_ok X) {t : Nat} (ht : t < gx_n X) {p : Nat} (hp : p < 3) : gx_s X t p ≤ gx_s X t (p + 1) ∧ gx_s X t (p + 1) ≤ gx_s X t 3 ∧ gx_s X t (p + 1) ≤ 160 := by
  obtain ⟨h0, h3, hh⟩ := hX.2.2 t ht
  have h1 : gx_s X t 0 ≤ gx_s X t 1 := (hh 0 (by decide)).1
  have h2 : gx_s X t 1 ≤ gx_s X t 2 := (hh 1 (by decide)).1
  have h4 : gx_s X t 2 ≤ gx_s X t 3 := (hh 2 (by decide)).1
  have : p = 0 ∨ p = 1 ∨ p = 2 := by omega
  rcases this with rfl | rfl | rfl
  · exact ⟨h1, Nat.le_trans h2 h4, by show gx_s X t 1 ≤ 160; omega⟩
  · exact ⟨h2, h4, by show gx_s X t 2 ≤ 160; omega⟩
  · exact ⟨h4, Nat.le_refl _, h3⟩
set_option maxHeartbeats 2000000 in
theorem c_says_0 {σ : qm_St} {T : tn_T} {X : gx_T} (hT : tn_ok T) (hX : gx_ok X) (hw : tn_w T < gx_n X) (h : TR σ 9 18 T) (hXC : XC σ X) {part l : Nat} (hp : part < 3) (hl : l < tn_L T) (c o : Int32) : ∃ σ', Ok qm_lay 10 mX6_says [.ref 4, .int (nI part), .ref 22, .int (nI l), .int c, .int o] σ (some (.int (sx_says T X part l c o))) σ' ∧ sm σ σ' 8 8 4 6 := by
  have hL := hT.1
  have hw6 := hT.2.1
  have hX6 := hX.2.1
  have hbl := tn_b_lt hT hl
  have hg : sm σ (qm_wF (qm_wF (qm_wF (qm_wF (qm_wF (qm_wF σ 4 0 c) 4 1 (nI l)) 4 2 (nI (tn_pc (tn_b T l)))) 4 3 o) 4 4 (nI (tn_m T l))) 4 5 (nI (tn_L T))) 8 8 4 5 := ((((((sm.rf σ 8 8 4 5).wF _ (by omega)).wF _ (by omega)).wF _ (by omega)).wF _ (by omega)).wF _ (by omega)).wF _ (by omega)
  obtain ⟨e1, e2, e3⟩ := gx_le hX hw hp
  have e4 : gx_s X (tn_w T) (part + 1) = gx_s X (tn_w T) part + (gx_s X (tn_w T) (part + 1) - gx_s X (tn_w T) part) := by omega
  have e5 := ((hX.2.2 _ hw).2.2 part hp).2
  have hnm : ∀ i, i < 6 → qm_rF (qm_wF (qm_wF (qm_wF (qm_wF (qm_wF (qm_wF σ 4 0 c) 4 1 (nI l)) 4 2 (nI (tn_pc (tn_b T l)))) 4 3 o) 4 4 (nI (tn_m T l))) 4 5 (nI (tn_L T))) 4 i = sx_nm T l c o i := fun i hi => by
    have : i = 0 ∨ i = 1 ∨ i = 2 ∨ i = 3 ∨ i = 4 ∨ i = 5 := by omega
    rcases this with rfl | rfl | rfl | rfl | rfl | rfl <;> rfl
  obtain ⟨σ', hO, hs⟩ := c_valueOf (σ := (qm_wF (qm_wF (qm_wF (qm_wF (qm_wF (qm_wF σ 4 0 c) 4 1 (nI l)) 4 2 (nI (tn_pc (tn_b T l)))) 4 3 o) 4 4 (nI (tn_m T l))) 4 5 (nI (tn_L T)))) e4 (lay_cd hT.2.1) (by omega) (fun k hk => by rw [rF_same hg (by omega)]; exact (hXC.2 _ hw).2 _ (by omega)) hnm (by omega) e5
  refine ⟨σ', ?_, (hg.wid (by omega) (by omega)).tr (hs.wid (by omega) (by omega))⟩
  refine Ok.of (ls := [some (.ref 4), some (.int (nI part)), some (.ref 22), some (.int (nI l)), some (.int c), some (.int o), none]) (Nat.le_of_ble_eq_true rfl) rfl ?_
  have hp3 : part = 0 ∨ part = 1 ∨ part = 2 := by omega
  rcases hp3 with rfl | rfl | rfl
  · refine ex_aload_n dX6_says_0 rfl rfl ?_
    refine ex_getI (s := 10) (x := nI (tn_w T)) dX6_says_1 rfl qp_5_77 rfl rfl (h.2.1) ?_
    refine ex_if_lt (q := 26) (q2 := 7) dX6_says_4 rfl rfl (fun hh => absurd hh (nI_pos (by omega))) (fun _ => ?_)
    refine ex_aload_n dX6_says_7 rfl rfl ?_
    refine ex_getI (s := 10) (x := nI (tn_w T)) dX6_says_8 rfl qp_5_77 rfl rfl (h.2.1) ?_
    refine ex_aload_n dX6_says_11 rfl rfl ?_
    refine ex_getI (s := 7) (x := nI (gx_n X)) dX6_says_12 rfl qp_5_63 rfl rfl (hXC.1) ?_
    refine ex_icmp_ge (q := 26) (q2 := 18) dX6_says_15 rfl rfl (fun hh => absurd hh (nI_ge (a := (tn_w T)) (b := (gx_n X)) (by omega) (by omega))) (fun _ => ?_)
    refine ex_aload_n dX6_says_18 rfl rfl ?_
    refine ex_iload_n dX6_says_19 rfl rfl ?_
    refine ex_callV (a := 22) (rest := []) dX6_says_20 rfl qp_5_82 rfl rfl rfl rfl rfl (Nat.le_of_ble_eq_true rfl) (c_hasLot_0n hT h (by omega)) (Nat.le_of_ble_eq_true rfl) ?_
    show Ex qm_lay _ mX6_says 23 [some (.ref 4), some (.int 0), some (.ref 22), some (.int (nI l)), some (.int c), some (.int o), none] [.int 1] σ _ _
    refine ex_if_ne (q := 28) (q2 := 26) dX6_says_23 rfl rfl (fun _ => ?_) (fun hh => absurd (by decide) hh)
    refine ex_aload_n dX6_says_28 rfl rfl ?_
    refine ex_getR (b := 6) dX6_says_29 rfl qp_5_30 rfl rfl ?_
    refine ex_iconst (x := 0) dX6_says_32 rfl rfl ?_
    refine ex_iload dX6_says_33 rfl rfl ?_
    refine ex_iastore (k := 0) (σ' := qm_wF σ 4 0 c) dX6_says_35 rfl rfl (rfl) (by omega) (by decide) rfl ?_
    refine ex_aload_n dX6_says_36 rfl rfl ?_
    refine ex_getR (b := 6) dX6_says_37 rfl qp_5_30 rfl rfl ?_
    refine ex_iconst (x := 1) dX6_says_40 rfl rfl ?_
    refine ex_iload_n dX6_says_41 rfl rfl ?_
    refine ex_iastore (k := 1) (σ' := qm_wF (qm_wF σ 4 0 c) 4 1 (nI l)) dX6_says_42 rfl rfl (rfl) (by omega) (by decide) rfl ?_
    refine ex_aload_n dX6_says_43 rfl rfl ?_
    refine ex_getR (b := 6) dX6_says_44 rfl qp_5_30 rfl rfl ?_
    refine ex_iconst (x := 2) dX6_says_47 rfl rfl ?_
    refine ex_aload_n dX6_says_48 rfl rfl ?_
    refine ex_getR (b := 25) dX6_says_49 rfl qp_5_86 rfl rfl ?_
    refine ex_iload_n dX6_says_52 rfl rfl ?_
    refine ex_iaload (k := l) (x := nI (tn_b T l)) dX6_says_53 rfl rfl (rfl) (by omega) (by decide) (TR.bb h (by omega)) ?_
    refine ex_callS (rest := [.int 2, .ref 6]) dX6_says_54 rfl qp_5_89 rfl rfl rfl (Nat.le_of_ble_eq_true rfl) ((c_bitCount _ _).eq (by rw [jk_bc_nI _ (by omega)]) rfl) (Nat.le_of_ble_eq_true rfl) ?_
    show Ex qm_lay _ mX6_says 57 [some (.ref 4), some (.int 0), some (.ref 22), some (.int (nI l)), some (.int c), some (.int o), none] [.int (nI (tn_pc (tn_b T l))), .int 2, .ref 6] (qm_wF (qm_wF σ 4 0 c) 4 1 (nI l)) _ _
    refine ex_iastore (k := 2) (σ' := qm_wF (qm_wF (qm_wF σ 4 0 c) 4 1 (nI l)) 4 2 (nI (tn_pc (tn_b T l)))) dX6_says_57 rfl rfl (rfl) (by omega) (by decide) rfl ?_
    refine ex_aload_n dX6_says_58 rfl rfl ?_
    refine ex_getR (b := 6) dX6_says_59 rfl qp_5_30 rfl rfl ?_
    refine ex_iconst (x := 3) dX6_says_62 rfl rfl ?_
    refine ex_iload dX6_says_63 rfl rfl ?_
    refine ex_iastore (k := 3) (σ' := qm_wF (qm_wF (qm_wF (qm_wF σ 4 0 c) 4 1 (nI l)) 4 2 (nI (tn_pc (tn_b T l)))) 4 3 o) dX6_says_65 rfl rfl (rfl) (by omega) (by decide) rfl ?_
    refine ex_aload_n dX6_says_66 rfl rfl ?_
    refine ex_getR (b := 6) dX6_says_67 rfl qp_5_30 rfl rfl ?_
    refine ex_iconst (x := 4) dX6_says_70 rfl rfl ?_
    refine ex_aload_n dX6_says_71 rfl rfl ?_
    refine ex_getR (b := 24) dX6_says_72 rfl qp_5_95 rfl rfl ?_
    refine ex_iload_n dX6_says_75 rfl rfl ?_
    refine ex_iaload (k := l) (x := nI (tn_m T l)) dX6_says_76 rfl rfl (rfl) (by omega) (by decide) (TR.mm h (by omega)) ?_
    refine ex_iastore (k := 4) (σ' := qm_wF (qm_wF (qm_wF (qm_wF (qm_wF σ 4 0 c) 4 1 (nI l)) 4 2 (nI (tn_pc (tn_b T l)))) 4 3 o) 4 4 (nI (tn_m T l))) dX6_says_77 rfl rfl (rfl) (by omega) (by decide) rfl ?_
    refine ex_aload_n dX6_says_78 rfl rfl ?_
    refine ex_getR (b := 6) dX6_says_79 rfl qp_5_30 rfl rfl ?_
    refine ex_iconst (x := 5) dX6_says_82 rfl rfl ?_
    refine ex_aload_n dX6_says_83 rfl rfl ?_
    refine ex_getI (s := 9) (x := nI (tn_L T)) dX6_says_84 rfl qp_5_98 rfl rfl (h.1) ?_
    refine ex_iastore (k := 5) (σ' := qm_wF (qm_wF (qm_wF (qm_wF (qm_wF (qm_wF σ 4 0 c) 4 1 (nI l)) 4 2 (nI (tn_pc (tn_b T l)))) 4 3 o) 4 4 (nI (tn_m T l))) 4 5 (nI (tn_L T))) dX6_says_87 rfl rfl (rfl) (by omega) (by decide) rfl ?_
    refine ex_aload_n dX6_says_88 rfl rfl ?_
    refine ex_aload_n dX6_says_89 rfl rfl ?_
    refine ex_getR (b := 8) dX6_says_90 rfl qp_5_24 rfl rfl ?_
    refine ex_aload_n dX6_says_93 rfl rfl ?_
    refine ex_getI (s := 10) (x := nI (tn_w T)) dX6_says_94 rfl qp_5_77 rfl rfl (h.2.1) ?_
    refine ex_aaload (k := tn_w T) (r := 10 + tn_w T) dX6_says_97 rfl rfl (rfl) (by omega) (by decide) rfl ?_
    refine ex_aload_n dX6_says_98 rfl rfl ?_
    refine ex_getR (b := 9) dX6_says_99 rfl qp_5_27 rfl rfl ?_
    refine ex_aload_n dX6_says_102 rfl rfl ?_
    refine ex_getI (s := 10) (x := nI (tn_w T)) dX6_says_103 rfl qp_5_77 rfl rfl (h.2.1) ?_
    refine ex_aaload (k := tn_w T) (r := 16 + tn_w T) dX6_says_106 rfl rfl (rfl) (by omega) (by decide) rfl ?_
    refine ex_iload_n dX6_says_107 rfl rfl ?_
    refine ex_iaload (k := 0) (x := nI (gx_s X (tn_w T) 0)) dX6_says_108 rfl (lay_st hT.2.1) (rfl) (by omega) (by decide) ((by rw [rF_same hg (by omega)]; exact (hXC.2 _ hw).1 0 (by decide))) ?_
    refine ex_aload_n dX6_says_109 rfl rfl ?_
    refine ex_getR (b := 9) dX6_says_110 rfl qp_5_27 rfl rfl ?_
    refine ex_aload_n dX6_says_113 rfl rfl ?_
    refine ex_getI (s := 10) (x := nI (tn_w T)) dX6_says_114 rfl qp_5_77 rfl rfl (h.2.1) ?_
    refine ex_aaload (k := tn_w T) (r := 16 + tn_w T) dX6_says_117 rfl rfl (rfl) (by omega) (by decide) rfl ?_
    refine ex_iload_n dX6_says_118 rfl rfl ?_
    refine ex_iconst (x := 1) dX6_says_119 rfl rfl ?_
    refine ex_iadd (z := 1) dX6_says_120 rfl (nI_add 0 1) ?_
    refine ex_iaload (k := 1) (x := nI (gx_s X (tn_w T) 1)) dX6_says_121 rfl (lay_st hT.2.1) (rfl) (by omega) (by decide) ((by rw [rF_same hg (by omega)]; exact (hXC.2 _ hw).1 1 (by decide))) ?_
    refine ex_callV (a := 4) (rest := []) dX6_says_122 rfl qp_5_101 rfl rfl rfl rfl rfl (Nat.le_of_ble_eq_true rfl) (hO) (Nat.le_of_ble_eq_true rfl) ?_
    show Ex qm_lay _ mX6_says 125 [some (.ref 4), some (.int 0), some (.ref 22), some (.int (nI l)), some (.int c), some (.int o), none] [.int (sx_v T X 0 l c o)] σ' _ _
    refine ex_istore (ls' := [some (.ref 4), some (.int 0), some (.ref 22), some (.int (nI l)), some (.int c), some (.int o), some (.int (sx_v T X 0 l c o))]) dX6_says_125 rfl (Nat.le_of_ble_eq_true rfl) rfl rfl ?_
    refine ex_iload_n dX6_says_127 rfl rfl ?_
    refine ex_iconst (x := 2) dX6_says_128 rfl rfl ?_
    refine ex_icmp_ne (q := 143) (q2 := 132) dX6_says_129 rfl rfl (fun _ => ?_) (fun hh => absurd (by decide) hh)
    refine ex_iconst (x := 0) dX6_says_143 rfl rfl ?_
    refine ex_bipush (x := 99) dX6_says_144 rfl rfl ?_
    refine ex_iload dX6_says_146 rfl rfl ?_
    refine ex_min (z := if sx_v T X 0 l c o < 99 then sx_v T X 0 l c o else 99) dX6_says_148 rfl qp_5_105 (Nat.le_of_ble_eq_true rfl) (rfl) ?_
    refine ex_max (z := if 0 < if sx_v T X 0 l c o < 99 then sx_v T X 0 l c o else 99 then if sx_v T X 0 l c o < 99 then sx_v T X 0 l c o else 99 else 0) dX6_says_151 rfl qp_5_111 (Nat.le_of_ble_eq_true rfl) (rfl) ?_
    exact ex_iret dX6_says_154 rfl (by rw [tn_wn99]; rfl) rfl
  · refine ex_aload_n dX6_says_0 rfl rfl ?_
    refine ex_getI (s := 10) (x := nI (tn_w T)) dX6_says_1 rfl qp_5_77 rfl rfl (h.2.1) ?_
    refine ex_if_lt (q := 26) (q2 := 7) dX6_says_4 rfl rfl (fun hh => absurd hh (nI_pos (by omega))) (fun _ => ?_)
    refine ex_aload_n dX6_says_7 rfl rfl ?_
    refine ex_getI (s := 10) (x := nI (tn_w T)) dX6_says_8 rfl qp_5_77 rfl rfl (h.2.1) ?_
    refine ex_aload_n dX6_says_11 rfl rfl ?_
    refine ex_getI (s := 7) (x := nI (gx_n X)) dX6_says_12 rfl qp_5_63 rfl rfl (hXC.1) ?_
    refine ex_icmp_ge (q := 26) (q2 := 18) dX6_says_15 rfl rfl (fun hh => absurd hh (nI_ge (a := (tn_w T)) (b := (gx_n X)) (by omega) (by omega))) (fun _ => ?_)
    refine ex_aload_n dX6_says_18 rfl rfl ?_
    refine ex_iload_n dX6_says_19 rfl rfl ?_
    refine ex_callV (a := 22) (rest := []) dX6_says_20 rfl qp_5_82 rfl rfl rfl rfl rfl (Nat.le_of_ble_eq_true rfl) (c_hasLot_0n hT h (by omega)) (Nat.le_of_ble_eq_true rfl) ?_
    show Ex qm_lay _ mX6_says 23 [some (.ref 4), some (.int 1), some (.ref 22), some (.int (nI l)), some (.int c), some (.int o), none] [.int 1] σ _ _
    refine ex_if_ne (q := 28) (q2 := 26) dX6_says_23 rfl rfl (fun _ => ?_) (fun hh => absurd (by decide) hh)
    refine ex_aload_n dX6_says_28 rfl rfl ?_
    refine ex_getR (b := 6) dX6_says_29 rfl qp_5_30 rfl rfl ?_
    refine ex_iconst (x := 0) dX6_says_32 rfl rfl ?_
    refine ex_iload dX6_says_33 rfl rfl ?_
    refine ex_iastore (k := 0) (σ' := qm_wF σ 4 0 c) dX6_says_35 rfl rfl (rfl) (by omega) (by decide) rfl ?_
    refine ex_aload_n dX6_says_36 rfl rfl ?_
    refine ex_getR (b := 6) dX6_says_37 rfl qp_5_30 rfl rfl ?_
    refine ex_iconst (x := 1) dX6_says_40 rfl rfl ?_
    refine ex_iload_n dX6_says_41 rfl rfl ?_
    refine ex_iastore (k := 1) (σ' := qm_wF (qm_wF σ 4 0 c) 4 1 (nI l)) dX6_says_42 rfl rfl (rfl) (by omega) (by decide) rfl ?_
    refine ex_aload_n dX6_says_43 rfl rfl ?_
    refine ex_getR (b := 6) dX6_says_44 rfl qp_5_30 rfl rfl ?_
    refine ex_iconst (x := 2) dX6_says_47 rfl rfl ?_
    refine ex_aload_n dX6_says_48 rfl rfl ?_
    refine ex_getR (b := 25) dX6_says_49 rfl qp_5_86 rfl rfl ?_
    refine ex_iload_n dX6_says_52 rfl rfl ?_
    refine ex_iaload (k := l) (x := nI (tn_b T l)) dX6_says_53 rfl rfl (rfl) (by omega) (by decide) (TR.bb h (by omega)) ?_
    refine ex_callS (rest := [.int 2, .ref 6]) dX6_says_54 rfl qp_5_89 rfl rfl rfl (Nat.le_of_ble_eq_true rfl) ((c_bitCount _ _).eq (by rw [jk_bc_nI _ (by omega)]) rfl) (Nat.le_of_ble_eq_true rfl) ?_
    show Ex qm_lay _ mX6_says 57 [some (.ref 4), some (.int 1), some (.ref 22), some (.int (nI l)), some (.int c), some (.int o), none] [.int (nI (tn_pc (tn_b T l))), .int 2, .ref 6] (qm_wF (qm_wF σ 4 0 c) 4 1 (nI l)) _ _
    refine ex_iastore (k := 2) (σ' := qm_wF (qm_wF (qm_wF σ 4 0 c) 4 1 (nI l)) 4 2 (nI (tn_pc (tn_b T l)))) dX6_says_57 rfl rfl (rfl) (by omega) (by decide) rfl ?_
    refine ex_aload_n dX6_says_58 rfl rfl ?_
    refine ex_getR (b := 6) dX6_says_59 rfl qp_5_30 rfl rfl ?_
    refine ex_iconst (x := 3) dX6_says_62 rfl rfl ?_
    refine ex_iload dX6_says_63 rfl rfl ?_
    refine ex_iastore (k := 3) (σ' := qm_wF (qm_wF (qm_wF (qm_wF σ 4 0 c) 4 1 (nI l)) 4 2 (nI (tn_pc (tn_b T l)))) 4 3 o) dX6_says_65 rfl rfl (rfl) (by omega) (by decide) rfl ?_
    refine ex_aload_n dX6_says_66 rfl rfl ?_
    refine ex_getR (b := 6) dX6_says_67 rfl qp_5_30 rfl rfl ?_
    refine ex_iconst (x := 4) dX6_says_70 rfl rfl ?_
    refine ex_aload_n dX6_says_71 rfl rfl ?_
    refine ex_getR (b := 24) dX6_says_72 rfl qp_5_95 rfl rfl ?_
    refine ex_iload_n dX6_says_75 rfl rfl ?_
    refine ex_iaload (k := l) (x := nI (tn_m T l)) dX6_says_76 rfl rfl (rfl) (by omega) (by decide) (TR.mm h (by omega)) ?_
    refine ex_iastore (k := 4) (σ' := qm_wF (qm_wF (qm_wF (qm_wF (qm_wF σ 4 0 c) 4 1 (nI l)) 4 2 (nI (tn_pc (tn_b T l)))) 4 3 o) 4 4 (nI (tn_m T l))) dX6_says_77 rfl rfl (rfl) (by omega) (by decide) rfl ?_
    refine ex_aload_n dX6_says_78 rfl rfl ?_
    refine ex_getR (b := 6) dX6_says_79 rfl qp_5_30 rfl rfl ?_
    refine ex_iconst (x := 5) dX6_says_82 rfl rfl ?_
    refine ex_aload_n dX6_says_83 rfl rfl ?_
    refine ex_getI (s := 9) (x := nI (tn_L T)) dX6_says_84 rfl qp_5_98 rfl rfl (h.1) ?_
    refine ex_iastore (k := 5) (σ' := qm_wF (qm_wF (qm_wF (qm_wF (qm_wF (qm_wF σ 4 0 c) 4 1 (nI l)) 4 2 (nI (tn_pc (tn_b T l)))) 4 3 o) 4 4 (nI (tn_m T l))) 4 5 (nI (tn_L T))) dX6_says_87 rfl rfl (rfl) (by omega) (by decide) rfl ?_
    refine ex_aload_n dX6_says_88 rfl rfl ?_
    refine ex_aload_n dX6_says_89 rfl rfl ?_
    refine ex_getR (b := 8) dX6_says_90 rfl qp_5_24 rfl rfl ?_
    refine ex_aload_n dX6_says_93 rfl rfl ?_
    refine ex_getI (s := 10) (x := nI (tn_w T)) dX6_says_94 rfl qp_5_77 rfl rfl (h.2.1) ?_
    refine ex_aaload (k := tn_w T) (r := 10 + tn_w T) dX6_says_97 rfl rfl (rfl) (by omega) (by decide) rfl ?_
    refine ex_aload_n dX6_says_98 rfl rfl ?_
    refine ex_getR (b := 9) dX6_says_99 rfl qp_5_27 rfl rfl ?_
    refine ex_aload_n dX6_says_102 rfl rfl ?_
    refine ex_getI (s := 10) (x := nI (tn_w T)) dX6_says_103 rfl qp_5_77 rfl rfl (h.2.1) ?_
    refine ex_aaload (k := tn_w T) (r := 16 + tn_w T) dX6_says_106 rfl rfl (rfl) (by omega) (by decide) rfl ?_
    refine ex_iload_n dX6_says_107 rfl rfl ?_
    refine ex_iaload (k := 1) (x := nI (gx_s X (tn_w T) 1)) dX6_says_108 rfl (lay_st hT.2.1) (rfl) (by omega) (by decide) ((by rw [rF_same hg (by omega)]; exact (hXC.2 _ hw).1 1 (by decide))) ?_
    refine ex_aload_n dX6_says_109 rfl rfl ?_
    refine ex_getR (b := 9) dX6_says_110 rfl qp_5_27 rfl rfl ?_
    refine ex_aload_n dX6_says_113 rfl rfl ?_
    refine ex_getI (s := 10) (x := nI (tn_w T)) dX6_says_114 rfl qp_5_77 rfl rfl (h.2.1) ?_
    refine ex_aaload (k := tn_w T) (r := 16 + tn_w T) dX6_says_117 rfl rfl (rfl) (by omega) (by decide) rfl ?_
    refine ex_iload_n dX6_says_118 rfl rfl ?_
    refine ex_iconst (x := 1) dX6_says_119 rfl rfl ?_
    refine ex_iadd (z := 2) dX6_says_120 rfl (nI_add 1 1) ?_
    refine ex_iaload (k := 2) (x := nI (gx_s X (tn_w T) 2)) dX6_says_121 rfl (lay_st hT.2.1) (rfl) (by omega) (by decide) ((by rw [rF_same hg (by omega)]; exact (hXC.2 _ hw).1 2 (by decide))) ?_
    refine ex_callV (a := 4) (rest := []) dX6_says_122 rfl qp_5_101 rfl rfl rfl rfl rfl (Nat.le_of_ble_eq_true rfl) (hO) (Nat.le_of_ble_eq_true rfl) ?_
    show Ex qm_lay _ mX6_says 125 [some (.ref 4), some (.int 1), some (.ref 22), some (.int (nI l)), some (.int c), some (.int o), none] [.int (sx_v T X 1 l c o)] σ' _ _
    refine ex_istore (ls' := [some (.ref 4), some (.int 1), some (.ref 22), some (.int (nI l)), some (.int c), some (.int o), some (.int (sx_v T X 1 l c o))]) dX6_says_125 rfl (Nat.le_of_ble_eq_true rfl) rfl rfl ?_
    refine ex_iload_n dX6_says_127 rfl rfl ?_
    refine ex_iconst (x := 2) dX6_says_128 rfl rfl ?_
    refine ex_icmp_ne (q := 143) (q2 := 132) dX6_says_129 rfl rfl (fun _ => ?_) (fun hh => absurd (by decide) hh)
    refine ex_iconst (x := 0) dX6_says_143 rfl rfl ?_
    refine ex_bipush (x := 99) dX6_says_144 rfl rfl ?_
    refine ex_iload dX6_says_146 rfl rfl ?_
    refine ex_min (z := if sx_v T X 1 l c o < 99 then sx_v T X 1 l c o else 99) dX6_says_148 rfl qp_5_105 (Nat.le_of_ble_eq_true rfl) (rfl) ?_
    refine ex_max (z := if 0 < if sx_v T X 1 l c o < 99 then sx_v T X 1 l c o else 99 then if sx_v T X 1 l c o < 99 then sx_v T X 1 l c o else 99 else 0) dX6_says_151 rfl qp_5_111 (Nat.le_of_ble_eq_true rfl) (rfl) ?_
    exact ex_iret dX6_says_154 rfl (by rw [tn_wn99]; rfl) rfl
  · refine ex_aload_n dX6_says_0 rfl rfl ?_
    refine ex_getI (s := 10) (x := nI (tn_w T)) dX6_says_1 rfl qp_5_77 rfl rfl (h.2.1) ?_
    refine ex_if_lt (q := 26) (q2 := 7) dX6_says_4 rfl rfl (fun hh => absurd hh (nI_pos (by omega))) (fun _ => ?_)
    refine ex_aload_n dX6_says_7 rfl rfl ?_
    refine ex_getI (s := 10) (x := nI (tn_w T)) dX6_says_8 rfl qp_5_77 rfl rfl (h.2.1) ?_
    refine ex_aload_n dX6_says_11 rfl rfl ?_
    refine ex_getI (s := 7) (x := nI (gx_n X)) dX6_says_12 rfl qp_5_63 rfl rfl (hXC.1) ?_
    refine ex_icmp_ge (q := 26) (q2 := 18) dX6_says_15 rfl rfl (fun hh => absurd hh (nI_ge (a := (tn_w T)) (b := (gx_n X)) (by omega) (by omega))) (fun _ => ?_)
    refine ex_aload_n dX6_says_18 rfl rfl ?_
    refine ex_iload_n dX6_says_19 rfl rfl ?_
    refine ex_callV (a := 22) (rest := []) dX6_says_20 rfl qp_5_82 rfl rfl rfl rfl rfl (Nat.le_of_ble_eq_true rfl) (c_hasLot_0n hT h (by omega)) (Nat.le_of_ble_eq_true rfl) ?_
    show Ex qm_lay _ mX6_says 23 [some (.ref 4), some (.int 2), some (.ref 22), some (.int (nI l)), some (.int c), some (.int o), none] [.int 1] σ _ _
    refine ex_if_ne (q := 28) (q2 := 26) dX6_says_23 rfl rfl (fun _ => ?_) (fun hh => absurd (by decide) hh)
    refine ex_aload_n dX6_says_28 rfl rfl ?_
    refine ex_getR (b := 6) dX6_says_29 rfl qp_5_30 rfl rfl ?_
    refine ex_iconst (x := 0) dX6_says_32 rfl rfl ?_
    refine ex_iload dX6_says_33 rfl rfl ?_
    refine ex_iastore (k := 0) (σ' := qm_wF σ 4 0 c) dX6_says_35 rfl rfl (rfl) (by omega) (by decide) rfl ?_
    refine ex_aload_n dX6_says_36 rfl rfl ?_
    refine ex_getR (b := 6) dX6_says_37 rfl qp_5_30 rfl rfl ?_
    refine ex_iconst (x := 1) dX6_says_40 rfl rfl ?_
    refine ex_iload_n dX6_says_41 rfl rfl ?_
    refine ex_iastore (k := 1) (σ' := qm_wF (qm_wF σ 4 0 c) 4 1 (nI l)) dX6_says_42 rfl rfl (rfl) (by omega) (by decide) rfl ?_
    refine ex_aload_n dX6_says_43 rfl rfl ?_
    refine ex_getR (b := 6) dX6_says_44 rfl qp_5_30 rfl rfl ?_
    refine ex_iconst (x := 2) dX6_says_47 rfl rfl ?_
    refine ex_aload_n dX6_says_48 rfl rfl ?_
    refine ex_getR (b := 25) dX6_says_49 rfl qp_5_86 rfl rfl ?_
    refine ex_iload_n dX6_says_52 rfl rfl ?_
    refine ex_iaload (k := l) (x := nI (tn_b T l)) dX6_says_53 rfl rfl (rfl) (by omega) (by decide) (TR.bb h (by omega)) ?_
    refine ex_callS (rest := [.int 2, .ref 6]) dX6_says_54 rfl qp_5_89 rfl rfl rfl (Nat.le_of_ble_eq_true rfl) ((c_bitCount _ _).eq (by rw [jk_bc_nI _ (by omega)]) rfl) (Nat.le_of_ble_eq_true rfl) ?_
    show Ex qm_lay _ mX6_says 57 [some (.ref 4), some (.int 2), some (.ref 22), some (.int (nI l)), some (.int c), some (.int o), none] [.int (nI (tn_pc (tn_b T l))), .int 2, .ref 6] (qm_wF (qm_wF σ 4 0 c) 4 1 (nI l)) _ _
    refine ex_iastore (k := 2) (σ' := qm_wF (qm_wF (qm_wF σ 4 0 c) 4 1 (nI l)) 4 2 (nI (tn_pc (tn_b T l)))) dX6_says_57 rfl rfl (rfl) (by omega) (by decide) rfl ?_
    refine ex_aload_n dX6_says_58 rfl rfl ?_
    refine ex_getR (b := 6) dX6_says_59 rfl qp_5_30 rfl rfl ?_
    refine ex_iconst (x := 3) dX6_says_62 rfl rfl ?_
    refine ex_iload dX6_says_63 rfl rfl ?_
    refine ex_iastore (k := 3) (σ' := qm_wF (qm_wF (qm_wF (qm_wF σ 4 0 c) 4 1 (nI l)) 4 2 (nI (tn_pc (tn_b T l)))) 4 3 o) dX6_says_65 rfl rfl (rfl) (by omega) (by decide) rfl ?_
    refine ex_aload_n dX6_says_66 rfl rfl ?_
    refine ex_getR (b := 6) dX6_says_67 rfl qp_5_30 rfl rfl ?_
    refine ex_iconst (x := 4) dX6_says_70 rfl rfl ?_
    refine ex_aload_n dX6_says_71 rfl rfl ?_
    refine ex_getR (b := 24) dX6_says_72 rfl qp_5_95 rfl rfl ?_
    refine ex_iload_n dX6_says_75 rfl rfl ?_
    refine ex_iaload (k := l) (x := nI (tn_m T l)) dX6_says_76 rfl rfl (rfl) (by omega) (by decide) (TR.mm h (by omega)) ?_
    refine ex_iastore (k := 4) (σ' := qm_wF (qm_wF (qm_wF (qm_wF (qm_wF σ 4 0 c) 4 1 (nI l)) 4 2 (nI (tn_pc (tn_b T l)))) 4 3 o) 4 4 (nI (tn_m T l))) dX6_says_77 rfl rfl (rfl) (by omega) (by decide) rfl ?_
    refine ex_aload_n dX6_says_78 rfl rfl ?_
    refine ex_getR (b := 6) dX6_says_79 rfl qp_5_30 rfl rfl ?_
    refine ex_iconst (x := 5) dX6_says_82 rfl rfl ?_
    refine ex_aload_n dX6_says_83 rfl rfl ?_
    refine ex_getI (s := 9) (x := nI (tn_L T)) dX6_says_84 rfl qp_5_98 rfl rfl (h.1) ?_
    refine ex_iastore (k := 5) (σ' := qm_wF (qm_wF (qm_wF (qm_wF (qm_wF (qm_wF σ 4 0 c) 4 1 (nI l)) 4 2 (nI (tn_pc (tn_b T l)))) 4 3 o) 4 4 (nI (tn_m T l))) 4 5 (nI (tn_L T))) dX6_says_87 rfl rfl (rfl) (by omega) (by decide) rfl ?_
    refine ex_aload_n dX6_says_88 rfl rfl ?_
    refine ex_aload_n dX6_says_89 rfl rfl ?_
    refine ex_getR (b := 8) dX6_says_90 rfl qp_5_24 rfl rfl ?_
    refine ex_aload_n dX6_says_93 rfl rfl ?_
    refine ex_getI (s := 10) (x := nI (tn_w T)) dX6_says_94 rfl qp_5_77 rfl rfl (h.2.1) ?_
    refine ex_aaload (k := tn_w T) (r := 10 + tn_w T) dX6_says_97 rfl rfl (rfl) (by omega) (by decide) rfl ?_
    refine ex_aload_n dX6_says_98 rfl rfl ?_
    refine ex_getR (b := 9) dX6_says_99 rfl qp_5_27 rfl rfl ?_
    refine ex_aload_n dX6_says_102 rfl rfl ?_
    refine ex_getI (s := 10) (x := nI (tn_w T)) dX6_says_103 rfl qp_5_77 rfl rfl (h.2.1) ?_
    refine ex_aaload (k := tn_w T) (r := 16 + tn_w T) dX6_says_106 rfl rfl (rfl) (by omega) (by decide) rfl ?_
    refine ex_iload_n dX6_says_107 rfl rfl ?_
    refine ex_iaload (k := 2) (x := nI (gx_s X (tn_w T) 2)) dX6_says_108 rfl (lay_st hT.2.1) (rfl) (by omega) (by decide) ((by rw [rF_same hg (by omega)]; exact (hXC.2 _ hw).1 2 (by decide))) ?_
    refine ex_aload_n dX6_says_109 rfl rfl ?_
    refine ex_getR (b := 9) dX6_says_110 rfl qp_5_27 rfl rfl ?_
    refine ex_aload_n dX6_says_113 rfl rfl ?_
    refine ex_getI (s := 10) (x := nI (tn_w T)) dX6_says_114 rfl qp_5_77 rfl rfl (h.2.1) ?_
    refine ex_aaload (k := tn_w T) (r := 16 + tn_w T) dX6_says_117 rfl rfl (rfl) (by omega) (by decide) rfl ?_
    refine ex_iload_n dX6_says_118 rfl rfl ?_
    refine ex_iconst (x := 1) dX6_says_119 rfl rfl ?_
    refine ex_iadd (z := 3) dX6_says_120 rfl (nI_add 2 1) ?_
    refine ex_iaload (k := 3) (x := nI (gx_s X (tn_w T) 3)) dX6_says_121 rfl (lay_st hT.2.1) (rfl) (by omega) (by decide) ((by rw [rF_same hg (by omega)]; exact (hXC.2 _ hw).1 3 (by decide))) ?_
    refine ex_callV (a := 4) (rest := []) dX6_says_122 rfl qp_5_101 rfl rfl rfl rfl rfl (Nat.le_of_ble_eq_true rfl) (hO) (Nat.le_of_ble_eq_true rfl) ?_
    show Ex qm_lay _ mX6_says 125 [some (.ref 4), some (.int 2), some (.ref 22), some (.int (nI l)), some (.int c), some (.int o), none] [.int (sx_v T X 2 l c o)] σ' _ _
    refine ex_istore (ls' := [some (.ref 4), some (.int 2), some (.ref 22), some (.int (nI l)), some (.int c), some (.int o), some (.int (sx_v T X 2 l c o))]) dX6_says_125 rfl (Nat.le_of_ble_eq_true rfl) rfl rfl ?_
    refine ex_iload_n dX6_says_127 rfl rfl ?_
    refine ex_iconst (x := 2) dX6_says_128 rfl rfl ?_
    refine ex_icmp_ne (q := 143) (q2 := 132) dX6_says_129 rfl rfl (fun hh => absurd hh (by decide)) (fun _ => ?_)
    refine ex_iload dX6_says_132 rfl rfl ?_
    refine ex_if_eq (q := 141) (q2 := 137) dX6_says_134 rfl rfl (fun h134 => ?_) (fun h134 => ?_)
    · refine ex_iconst (x := 0) dX6_says_141 rfl rfl ?_
      exact ex_iret dX6_says_142 rfl (by rw [sx_says, if_pos rfl]; first | rw [if_neg h134] | rw [if_pos h134]) (rfl)
    · refine ex_iconst (x := 1) dX6_says_137 rfl rfl ?_
      refine ex_goto (q := 142) dX6_says_138 rfl ?_
      exact ex_iret dX6_says_142 rfl (by rw [sx_says, if_pos rfl]; first | rw [if_neg h134] | rw [if_pos h134]) (rfl)

set_option maxHeartbeats 2000000 in
theorem c_says_1 {σ : qm_St} {T : tn_T} {X : gx_T} (hT : tn_ok T) (hX : gx_ok X) (hw : tn_w T < gx_n X) (h : TR σ 13 23 T) (hXC : XC σ X) {part l : Nat} (hp : part < 3) (hl : l < tn_L T) (c o : Int32) : ∃ σ', Ok qm_lay 10 mX6_says [.ref 4, .int (nI part), .ref 28, .int (nI l), .int c, .int o] σ (some (.int (sx_says T X part l c o))) σ' ∧ sm σ σ' 8 8 4 6 := by
  have hL := hT.1
  have hw6 := hT.2.1
  have hX6 := hX.2.1
  have hbl := tn_b_lt hT hl
  have hg : sm σ (qm_wF (qm_wF (qm_wF (qm_wF (qm_wF (qm_wF σ 4 0 c) 4 1 (nI l)) 4 2 (nI (tn_pc (tn_b T l)))) 4 3 o) 4 4 (nI (tn_m T l))) 4 5 (nI (tn_L T))) 8 8 4 5 := ((((((sm.rf σ 8 8 4 5).wF _ (by omega)).wF _ (by omega)).wF _ (by omega)).wF _ (by omega)).wF _ (by omega)).wF _ (by omega)
  obtain ⟨e1, e2, e3⟩ := gx_le hX hw hp
  have e4 : gx_s X (tn_w T) (part + 1) = gx_s X (tn_w T) part + (gx_s X (tn_w T) (part + 1) - gx_s X (tn_w T) part) := by omega
  have e5 := ((hX.2.2 _ hw).2.2 part hp).2
  have hnm : ∀ i, i < 6 → qm_rF (qm_wF (qm_wF (qm_wF (qm_wF (qm_wF (qm_wF σ 4 0 c) 4 1 (nI l)) 4 2 (nI (tn_pc (tn_b T l)))) 4 3 o) 4 4 (nI (tn_m T l))) 4 5 (nI (tn_L T))) 4 i = sx_nm T l c o i := fun i hi => by
    have : i = 0 ∨ i = 1 ∨ i = 2 ∨ i = 3 ∨ i = 4 ∨ i = 5 := by omega
    rcases this with rfl | rfl | rfl | rfl | rfl | rfl <;> rfl
  obtain ⟨σ', hO, hs⟩ := c_valueOf (σ := (qm_wF (qm_wF (qm_wF (qm_wF (qm_wF (qm_wF σ 4 0 c) 4 1 (nI l)) 4 2 (nI (tn_pc (tn_b T l)))) 4 3 o) 4 4 (nI (tn_m T l))) 4 5 (nI (tn_L T)))) e4 (lay_cd hT.2.1) (by omega) (fun k hk => by rw [rF_same hg (by omega)]; exact (hXC.2 _ hw).2 _ (by omega)) hnm (by omega) e5
  refine ⟨σ', ?_, (hg.wid (by omega) (by omega)).tr (hs.wid (by omega) (by omega))⟩
  refine Ok.of (ls := [some (.ref 4), some (.int (nI part)), some (.ref 28), some (.int (nI l)), some (.int c), some (.int o), none]) (Nat.le_of_ble_eq_true rfl) rfl ?_
  have hp3 : part = 0 ∨ part = 1 ∨ part = 2 := by omega
  rcases hp3 with rfl | rfl | rfl
  · refine ex_aload_n dX6_says_0 rfl rfl ?_
    refine ex_getI (s := 14) (x := nI (tn_w T)) dX6_says_1 rfl qp_5_77 rfl rfl (h.2.1) ?_
    refine ex_if_lt (q := 26) (q2 := 7) dX6_says_4 rfl rfl (fun hh => absurd hh (nI_pos (by omega))) (fun _ => ?_)
    refine ex_aload_n dX6_says_7 rfl rfl ?_
    refine ex_getI (s := 14) (x := nI (tn_w T)) dX6_says_8 rfl qp_5_77 rfl rfl (h.2.1) ?_
    refine ex_aload_n dX6_says_11 rfl rfl ?_
    refine ex_getI (s := 7) (x := nI (gx_n X)) dX6_says_12 rfl qp_5_63 rfl rfl (hXC.1) ?_
    refine ex_icmp_ge (q := 26) (q2 := 18) dX6_says_15 rfl rfl (fun hh => absurd hh (nI_ge (a := (tn_w T)) (b := (gx_n X)) (by omega) (by omega))) (fun _ => ?_)
    refine ex_aload_n dX6_says_18 rfl rfl ?_
    refine ex_iload_n dX6_says_19 rfl rfl ?_
    refine ex_callV (a := 28) (rest := []) dX6_says_20 rfl qp_5_82 rfl rfl rfl rfl rfl (Nat.le_of_ble_eq_true rfl) (c_hasLot_1n hT h (by omega)) (Nat.le_of_ble_eq_true rfl) ?_
    show Ex qm_lay _ mX6_says 23 [some (.ref 4), some (.int 0), some (.ref 28), some (.int (nI l)), some (.int c), some (.int o), none] [.int 1] σ _ _
    refine ex_if_ne (q := 28) (q2 := 26) dX6_says_23 rfl rfl (fun _ => ?_) (fun hh => absurd (by decide) hh)
    refine ex_aload_n dX6_says_28 rfl rfl ?_
    refine ex_getR (b := 6) dX6_says_29 rfl qp_5_30 rfl rfl ?_
    refine ex_iconst (x := 0) dX6_says_32 rfl rfl ?_
    refine ex_iload dX6_says_33 rfl rfl ?_
    refine ex_iastore (k := 0) (σ' := qm_wF σ 4 0 c) dX6_says_35 rfl rfl (rfl) (by omega) (by decide) rfl ?_
    refine ex_aload_n dX6_says_36 rfl rfl ?_
    refine ex_getR (b := 6) dX6_says_37 rfl qp_5_30 rfl rfl ?_
    refine ex_iconst (x := 1) dX6_says_40 rfl rfl ?_
    refine ex_iload_n dX6_says_41 rfl rfl ?_
    refine ex_iastore (k := 1) (σ' := qm_wF (qm_wF σ 4 0 c) 4 1 (nI l)) dX6_says_42 rfl rfl (rfl) (by omega) (by decide) rfl ?_
    refine ex_aload_n dX6_says_43 rfl rfl ?_
    refine ex_getR (b := 6) dX6_says_44 rfl qp_5_30 rfl rfl ?_
    refine ex_iconst (x := 2) dX6_says_47 rfl rfl ?_
    refine ex_aload_n dX6_says_48 rfl rfl ?_
    refine ex_getR (b := 31) dX6_says_49 rfl qp_5_86 rfl rfl ?_
    refine ex_iload_n dX6_says_52 rfl rfl ?_
    refine ex_iaload (k := l) (x := nI (tn_b T l)) dX6_says_53 rfl rfl (rfl) (by omega) (by decide) (TR.bb h (by omega)) ?_
    refine ex_callS (rest := [.int 2, .ref 6]) dX6_says_54 rfl qp_5_89 rfl rfl rfl (Nat.le_of_ble_eq_true rfl) ((c_bitCount _ _).eq (by rw [jk_bc_nI _ (by omega)]) rfl) (Nat.le_of_ble_eq_true rfl) ?_
    show Ex qm_lay _ mX6_says 57 [some (.ref 4), some (.int 0), some (.ref 28), some (.int (nI l)), some (.int c), some (.int o), none] [.int (nI (tn_pc (tn_b T l))), .int 2, .ref 6] (qm_wF (qm_wF σ 4 0 c) 4 1 (nI l)) _ _
    refine ex_iastore (k := 2) (σ' := qm_wF (qm_wF (qm_wF σ 4 0 c) 4 1 (nI l)) 4 2 (nI (tn_pc (tn_b T l)))) dX6_says_57 rfl rfl (rfl) (by omega) (by decide) rfl ?_
    refine ex_aload_n dX6_says_58 rfl rfl ?_
    refine ex_getR (b := 6) dX6_says_59 rfl qp_5_30 rfl rfl ?_
    refine ex_iconst (x := 3) dX6_says_62 rfl rfl ?_
    refine ex_iload dX6_says_63 rfl rfl ?_
    refine ex_iastore (k := 3) (σ' := qm_wF (qm_wF (qm_wF (qm_wF σ 4 0 c) 4 1 (nI l)) 4 2 (nI (tn_pc (tn_b T l)))) 4 3 o) dX6_says_65 rfl rfl (rfl) (by omega) (by decide) rfl ?_
    refine ex_aload_n dX6_says_66 rfl rfl ?_
    refine ex_getR (b := 6) dX6_says_67 rfl qp_5_30 rfl rfl ?_
    refine ex_iconst (x := 4) dX6_says_70 rfl rfl ?_
    refine ex_aload_n dX6_says_71 rfl rfl ?_
    refine ex_getR (b := 30) dX6_says_72 rfl qp_5_95 rfl rfl ?_
    refine ex_iload_n dX6_says_75 rfl rfl ?_
    refine ex_iaload (k := l) (x := nI (tn_m T l)) dX6_says_76 rfl rfl (rfl) (by omega) (by decide) (TR.mm h (by omega)) ?_
    refine ex_iastore (k := 4) (σ' := qm_wF (qm_wF (qm_wF (qm_wF (qm_wF σ 4 0 c) 4 1 (nI l)) 4 2 (nI (tn_pc (tn_b T l)))) 4 3 o) 4 4 (nI (tn_m T l))) dX6_says_77 rfl rfl (rfl) (by omega) (by decide) rfl ?_
    refine ex_aload_n dX6_says_78 rfl rfl ?_
    refine ex_getR (b := 6) dX6_says_79 rfl qp_5_30 rfl rfl ?_
    refine ex_iconst (x := 5) dX6_says_82 rfl rfl ?_
    refine ex_aload_n dX6_says_83 rfl rfl ?_
    refine ex_getI (s := 13) (x := nI (tn_L T)) dX6_says_84 rfl qp_5_98 rfl rfl (h.1) ?_
    refine ex_iastore (k := 5) (σ' := qm_wF (qm_wF (qm_wF (qm_wF (qm_wF (qm_wF σ 4 0 c) 4 1 (nI l)) 4 2 (nI (tn_pc (tn_b T l)))) 4 3 o) 4 4 (nI (tn_m T l))) 4 5 (nI (tn_L T))) dX6_says_87 rfl rfl (rfl) (by omega) (by decide) rfl ?_
    refine ex_aload_n dX6_says_88 rfl rfl ?_
    refine ex_aload_n dX6_says_89 rfl rfl ?_
    refine ex_getR (b := 8) dX6_says_90 rfl qp_5_24 rfl rfl ?_
    refine ex_aload_n dX6_says_93 rfl rfl ?_
    refine ex_getI (s := 14) (x := nI (tn_w T)) dX6_says_94 rfl qp_5_77 rfl rfl (h.2.1) ?_
    refine ex_aaload (k := tn_w T) (r := 10 + tn_w T) dX6_says_97 rfl rfl (rfl) (by omega) (by decide) rfl ?_
    refine ex_aload_n dX6_says_98 rfl rfl ?_
    refine ex_getR (b := 9) dX6_says_99 rfl qp_5_27 rfl rfl ?_
    refine ex_aload_n dX6_says_102 rfl rfl ?_
    refine ex_getI (s := 14) (x := nI (tn_w T)) dX6_says_103 rfl qp_5_77 rfl rfl (h.2.1) ?_
    refine ex_aaload (k := tn_w T) (r := 16 + tn_w T) dX6_says_106 rfl rfl (rfl) (by omega) (by decide) rfl ?_
    refine ex_iload_n dX6_says_107 rfl rfl ?_
    refine ex_iaload (k := 0) (x := nI (gx_s X (tn_w T) 0)) dX6_says_108 rfl (lay_st hT.2.1) (rfl) (by omega) (by decide) ((by rw [rF_same hg (by omega)]; exact (hXC.2 _ hw).1 0 (by decide))) ?_
    refine ex_aload_n dX6_says_109 rfl rfl ?_
    refine ex_getR (b := 9) dX6_says_110 rfl qp_5_27 rfl rfl ?_
    refine ex_aload_n dX6_says_113 rfl rfl ?_
    refine ex_getI (s := 14) (x := nI (tn_w T)) dX6_says_114 rfl qp_5_77 rfl rfl (h.2.1) ?_
    refine ex_aaload (k := tn_w T) (r := 16 + tn_w T) dX6_says_117 rfl rfl (rfl) (by omega) (by decide) rfl ?_
    refine ex_iload_n dX6_says_118 rfl rfl ?_
    refine ex_iconst (x := 1) dX6_says_119 rfl rfl ?_
    refine ex_iadd (z := 1) dX6_says_120 rfl (nI_add 0 1) ?_
    refine ex_iaload (k := 1) (x := nI (gx_s X (tn_w T) 1)) dX6_says_121 rfl (lay_st hT.2.1) (rfl) (by omega) (by decide) ((by rw [rF_same hg (by omega)]; exact (hXC.2 _ hw).1 1 (by decide))) ?_
    refine ex_callV (a := 4) (rest := []) dX6_says_122 rfl qp_5_101 rfl rfl rfl rfl rfl (Nat.le_of_ble_eq_true rfl) (hO) (Nat.le_of_ble_eq_true rfl) ?_
    show Ex qm_lay _ mX6_says 125 [some (.ref 4), some (.int 0), some (.ref 28), some (.int (nI l)), some (.int c), some (.int o), none] [.int (sx_v T X 0 l c o)] σ' _ _
    refine ex_istore (ls' := [some (.ref 4), some (.int 0), some (.ref 28), some (.int (nI l)), some (.int c), some (.int o), some (.int (sx_v T X 0 l c o))]) dX6_says_125 rfl (Nat.le_of_ble_eq_true rfl) rfl rfl ?_
    refine ex_iload_n dX6_says_127 rfl rfl ?_
    refine ex_iconst (x := 2) dX6_says_128 rfl rfl ?_
    refine ex_icmp_ne (q := 143) (q2 := 132) dX6_says_129 rfl rfl (fun _ => ?_) (fun hh => absurd (by decide) hh)
    refine ex_iconst (x := 0) dX6_says_143 rfl rfl ?_
    refine ex_bipush (x := 99) dX6_says_144 rfl rfl ?_
    refine ex_iload dX6_says_146 rfl rfl ?_
    refine ex_min (z := if sx_v T X 0 l c o < 99 then sx_v T X 0 l c o else 99) dX6_says_148 rfl qp_5_105 (Nat.le_of_ble_eq_true rfl) (rfl) ?_
    refine ex_max (z := if 0 < if sx_v T X 0 l c o < 99 then sx_v T X 0 l c o else 99 then if sx_v T X 0 l c o < 99 then sx_v T X 0 l c o else 99 else 0) dX6_says_151 rfl qp_5_111 (Nat.le_of_ble_eq_true rfl) (rfl) ?_
    exact ex_iret dX6_says_154 rfl (by rw [tn_wn99]; rfl) rfl
  · refine ex_aload_n dX6_says_0 rfl rfl ?_
    refine ex_getI (s := 14) (x := nI (tn_w T)) dX6_says_1 rfl qp_5_77 rfl rfl (h.2.1) ?_
    refine ex_if_lt (q := 26) (q2 := 7) dX6_says_4 rfl rfl (fun hh => absurd hh (nI_pos (by omega))) (fun _ => ?_)
    refine ex_aload_n dX6_says_7 rfl rfl ?_
    refine ex_getI (s := 14) (x := nI (tn_w T)) dX6_says_8 rfl qp_5_77 rfl rfl (h.2.1) ?_
    refine ex_aload_n dX6_says_11 rfl rfl ?_
    refine ex_getI (s := 7) (x := nI (gx_n X)) dX6_says_12 rfl qp_5_63 rfl rfl (hXC.1) ?_
    refine ex_icmp_ge (q := 26) (q2 := 18) dX6_says_15 rfl rfl (fun hh => absurd hh (nI_ge (a := (tn_w T)) (b := (gx_n X)) (by omega) (by omega))) (fun _ => ?_)
    refine ex_aload_n dX6_says_18 rfl rfl ?_
    refine ex_iload_n dX6_says_19 rfl rfl ?_
    refine ex_callV (a := 28) (rest := []) dX6_says_20 rfl qp_5_82 rfl rfl rfl rfl rfl (Nat.le_of_ble_eq_true rfl) (c_hasLot_1n hT h (by omega)) (Nat.le_of_ble_eq_true rfl) ?_
    show Ex qm_lay _ mX6_says 23 [some (.ref 4), some (.int 1), some (.ref 28), some (.int (nI l)), some (.int c), some (.int o), none] [.int 1] σ _ _
    refine ex_if_ne (q := 28) (q2 := 26) dX6_says_23 rfl rfl (fun _ => ?_) (fun hh => absurd (by decide) hh)
    refine ex_aload_n dX6_says_28 rfl rfl ?_
    refine ex_getR (b := 6) dX6_says_29 rfl qp_5_30 rfl rfl ?_
    refine ex_iconst (x := 0) dX6_says_32 rfl rfl ?_
    refine ex_iload dX6_says_33 rfl rfl ?_
    refine ex_iastore (k := 0) (σ' := qm_wF σ 4 0 c) dX6_says_35 rfl rfl (rfl) (by omega) (by decide) rfl ?_
    refine ex_aload_n dX6_says_36 rfl rfl ?_
    refine ex_getR (b := 6) dX6_says_37 rfl qp_5_30 rfl rfl ?_
    refine ex_iconst (x := 1) dX6_says_40 rfl rfl ?_
    refine ex_iload_n dX6_says_41 rfl rfl ?_
    refine ex_iastore (k := 1) (σ' := qm_wF (qm_wF σ 4 0 c) 4 1 (nI l)) dX6_says_42 rfl rfl (rfl) (by omega) (by decide) rfl ?_
    refine ex_aload_n dX6_says_43 rfl rfl ?_
    refine ex_getR (b := 6) dX6_says_44 rfl qp_5_30 rfl rfl ?_
    refine ex_iconst (x := 2) dX6_says_47 rfl rfl ?_
    refine ex_aload_n dX6_says_48 rfl rfl ?_
    refine ex_getR (b := 31) dX6_says_49 rfl qp_5_86 rfl rfl ?_
    refine ex_iload_n dX6_says_52 rfl rfl ?_
    refine ex_iaload (k := l) (x := nI (tn_b T l)) dX6_says_53 rfl rfl (rfl) (by omega) (by decide) (TR.bb h (by omega)) ?_
    refine ex_callS (rest := [.int 2, .ref 6]) dX6_says_54 rfl qp_5_89 rfl rfl rfl (Nat.le_of_ble_eq_true rfl) ((c_bitCount _ _).eq (by rw [jk_bc_nI _ (by omega)]) rfl) (Nat.le_of_ble_eq_true rfl) ?_
    show Ex qm_lay _ mX6_says 57 [some (.ref 4), some (.int 1), some (.ref 28), some (.int (nI l)), some (.int c), some (.int o), none] [.int (nI (tn_pc (tn_b T l))), .int 2, .ref 6] (qm_wF (qm_wF σ 4 0 c) 4 1 (nI l)) _ _
    refine ex_iastore (k := 2) (σ' := qm_wF (qm_wF (qm_wF σ 4 0 c) 4 1 (nI l)) 4 2 (nI (tn_pc (tn_b T l)))) dX6_says_57 rfl rfl (rfl) (by omega) (by decide) rfl ?_
    refine ex_aload_n dX6_says_58 rfl rfl ?_
    refine ex_getR (b := 6) dX6_says_59 rfl qp_5_30 rfl rfl ?_
    refine ex_iconst (x := 3) dX6_says_62 rfl rfl ?_
    refine ex_iload dX6_says_63 rfl rfl ?_
    refine ex_iastore (k := 3) (σ' := qm_wF (qm_wF (qm_wF (qm_wF σ 4 0 c) 4 1 (nI l)) 4 2 (nI (tn_pc (tn_b T l)))) 4 3 o) dX6_says_65 rfl rfl (rfl) (by omega) (by decide) rfl ?_
    refine ex_aload_n dX6_says_66 rfl rfl ?_
    refine ex_getR (b := 6) dX6_says_67 rfl qp_5_30 rfl rfl ?_
    refine ex_iconst (x := 4) dX6_says_70 rfl rfl ?_
    refine ex_aload_n dX6_says_71 rfl rfl ?_
    refine ex_getR (b := 30) dX6_says_72 rfl qp_5_95 rfl rfl ?_
    refine ex_iload_n dX6_says_75 rfl rfl ?_
    refine ex_iaload (k := l) (x := nI (tn_m T l)) dX6_says_76 rfl rfl (rfl) (by omega) (by decide) (TR.mm h (by omega)) ?_
    refine ex_iastore (k := 4) (σ' := qm_wF (qm_wF (qm_wF (qm_wF (qm_wF σ 4 0 c) 4 1 (nI l)) 4 2 (nI (tn_pc (tn_b T l)))) 4 3 o) 4 4 (nI (tn_m T l))) dX6_says_77 rfl rfl (rfl) (by omega) (by decide) rfl ?_
    refine ex_aload_n dX6_says_78 rfl rfl ?_
    refine ex_getR (b := 6) dX6_says_79 rfl qp_5_30 rfl rfl ?_
    refine ex_iconst (x := 5) dX6_says_82 rfl rfl ?_
    refine ex_aload_n dX6_says_83 rfl rfl ?_
    refine ex_getI (s := 13) (x := nI (tn_L T)) dX6_says_84 rfl qp_5_98 rfl rfl (h.1) ?_
    refine ex_iastore (k := 5) (σ' := qm_wF (qm_wF (qm_wF (qm_wF (qm_wF (qm_wF σ 4 0 c) 4 1 (nI l)) 4 2 (nI (tn_pc (tn_b T l)))) 4 3 o) 4 4 (nI (tn_m T l))) 4 5 (nI (tn_L T))) dX6_says_87 rfl rfl (rfl) (by omega) (by decide) rfl ?_
    refine ex_aload_n dX6_says_88 rfl rfl ?_
    refine ex_aload_n dX6_says_89 rfl rfl ?_
    refine ex_getR (b := 8) dX6_says_90 rfl qp_5_24 rfl rfl ?_
    refine ex_aload_n dX6_says_93 rfl rfl ?_
    refine ex_getI (s := 14) (x := nI (tn_w T)) dX6_says_94 rfl qp_5_77 rfl rfl (h.2.1) ?_
    refine ex_aaload (k := tn_w T) (r := 10 + tn_w T) dX6_says_97 rfl rfl (rfl) (by omega) (by decide) rfl ?_
    refine ex_aload_n dX6_says_98 rfl rfl ?_
    refine ex_getR (b := 9) dX6_says_99 rfl qp_5_27 rfl rfl ?_
    refine ex_aload_n dX6_says_102 rfl rfl ?_
    refine ex_getI (s := 14) (x := nI (tn_w T)) dX6_says_103 rfl qp_5_77 rfl rfl (h.2.1) ?_
    refine ex_aaload (k := tn_w T) (r := 16 + tn_w T) dX6_says_106 rfl rfl (rfl) (by omega) (by decide) rfl ?_
    refine ex_iload_n dX6_says_107 rfl rfl ?_
    refine ex_iaload (k := 1) (x := nI (gx_s X (tn_w T) 1)) dX6_says_108 rfl (lay_st hT.2.1) (rfl) (by omega) (by decide) ((by rw [rF_same hg (by omega)]; exact (hXC.2 _ hw).1 1 (by decide))) ?_
    refine ex_aload_n dX6_says_109 rfl rfl ?_
    refine ex_getR (b := 9) dX6_says_110 rfl qp_5_27 rfl rfl ?_
    refine ex_aload_n dX6_says_113 rfl rfl ?_
    refine ex_getI (s := 14) (x := nI (tn_w T)) dX6_says_114 rfl qp_5_77 rfl rfl (h.2.1) ?_
    refine ex_aaload (k := tn_w T) (r := 16 + tn_w T) dX6_says_117 rfl rfl (rfl) (by omega) (by decide) rfl ?_
    refine ex_iload_n dX6_says_118 rfl rfl ?_
    refine ex_iconst (x := 1) dX6_says_119 rfl rfl ?_
    refine ex_iadd (z := 2) dX6_says_120 rfl (nI_add 1 1) ?_
    refine ex_iaload (k := 2) (x := nI (gx_s X (tn_w T) 2)) dX6_says_121 rfl (lay_st hT.2.1) (rfl) (by omega) (by decide) ((by rw [rF_same hg (by omega)]; exact (hXC.2 _ hw).1 2 (by decide))) ?_
    refine ex_callV (a := 4) (rest := []) dX6_says_122 rfl qp_5_101 rfl rfl rfl rfl rfl (Nat.le_of_ble_eq_true rfl) (hO) (Nat.le_of_ble_eq_true rfl) ?_
    show Ex qm_lay _ mX6_says 125 [some (.ref 4), some (.int 1), some (.ref 28), some (.int (nI l)), some (.int c), some (.int o), none] [.int (sx_v T X 1 l c o)] σ' _ _
    refine ex_istore (ls' := [some (.ref 4), some (.int 1), some (.ref 28), some (.int (nI l)), some (.int c), some (.int o), some (.int (sx_v T X 1 l c o))]) dX6_says_125 rfl (Nat.le_of_ble_eq_true rfl) rfl rfl ?_
    refine ex_iload_n dX6_says_127 rfl rfl ?_
    refine ex_iconst (x := 2) dX6_says_128 rfl rfl ?_
    refine ex_icmp_ne (q := 143) (q2 := 132) dX6_says_129 rfl rfl (fun _ => ?_) (fun hh => absurd (by decide) hh)
    refine ex_iconst (x := 0) dX6_says_143 rfl rfl ?_
    refine ex_bipush (x := 99) dX6_says_144 rfl rfl ?_
    refine ex_iload dX6_says_146 rfl rfl ?_
    refine ex_min (z := if sx_v T X 1 l c o < 99 then sx_v T X 1 l c o else 99) dX6_says_148 rfl qp_5_105 (Nat.le_of_ble_eq_true rfl) (rfl) ?_
    refine ex_max (z := if 0 < if sx_v T X 1 l c o < 99 then sx_v T X 1 l c o else 99 then if sx_v T X 1 l c o < 99 then sx_v T X 1 l c o else 99 else 0) dX6_says_151 rfl qp_5_111 (Nat.le_of_ble_eq_true rfl) (rfl) ?_
    exact ex_iret dX6_says_154 rfl (by rw [tn_wn99]; rfl) rfl
  · refine ex_aload_n dX6_says_0 rfl rfl ?_
    refine ex_getI (s := 14) (x := nI (tn_w T)) dX6_says_1 rfl qp_5_77 rfl rfl (h.2.1) ?_
    refine ex_if_lt (q := 26) (q2 := 7) dX6_says_4 rfl rfl (fun hh => absurd hh (nI_pos (by omega))) (fun _ => ?_)
    refine ex_aload_n dX6_says_7 rfl rfl ?_
    refine ex_getI (s := 14) (x := nI (tn_w T)) dX6_says_8 rfl qp_5_77 rfl rfl (h.2.1) ?_
    refine ex_aload_n dX6_says_11 rfl rfl ?_
    refine ex_getI (s := 7) (x := nI (gx_n X)) dX6_says_12 rfl qp_5_63 rfl rfl (hXC.1) ?_
    refine ex_icmp_ge (q := 26) (q2 := 18) dX6_says_15 rfl rfl (fun hh => absurd hh (nI_ge (a := (tn_w T)) (b := (gx_n X)) (by omega) (by omega))) (fun _ => ?_)
    refine ex_aload_n dX6_says_18 rfl rfl ?_
    refine ex_iload_n dX6_says_19 rfl rfl ?_
    refine ex_callV (a := 28) (rest := []) dX6_says_20 rfl qp_5_82 rfl rfl rfl rfl rfl (Nat.le_of_ble_eq_true rfl) (c_hasLot_1n hT h (by omega)) (Nat.le_of_ble_eq_true rfl) ?_
    show Ex qm_lay _ mX6_says 23 [some (.ref 4), some (.int 2), some (.ref 28), some (.int (nI l)), some (.int c), some (.int o), none] [.int 1] σ _ _
    refine ex_if_ne (q := 28) (q2 := 26) dX6_says_23 rfl rfl (fun _ => ?_) (fun hh => absurd (by decide) hh)
    refine ex_aload_n dX6_says_28 rfl rfl ?_
    refine ex_getR (b := 6) dX6_says_29 rfl qp_5_30 rfl rfl ?_
    refine ex_iconst (x := 0) dX6_says_32 rfl rfl ?_
    refine ex_iload dX6_says_33 rfl rfl ?_
    refine ex_iastore (k := 0) (σ' := qm_wF σ 4 0 c) dX6_says_35 rfl rfl (rfl) (by omega) (by decide) rfl ?_
    refine ex_aload_n dX6_says_36 rfl rfl ?_
    refine ex_getR (b := 6) dX6_says_37 rfl qp_5_30 rfl rfl ?_
    refine ex_iconst (x := 1) dX6_says_40 rfl rfl ?_
    refine ex_iload_n dX6_says_41 rfl rfl ?_
    refine ex_iastore (k := 1) (σ' := qm_wF (qm_wF σ 4 0 c) 4 1 (nI l)) dX6_says_42 rfl rfl (rfl) (by omega) (by decide) rfl ?_
    refine ex_aload_n dX6_says_43 rfl rfl ?_
    refine ex_getR (b := 6) dX6_says_44 rfl qp_5_30 rfl rfl ?_
    refine ex_iconst (x := 2) dX6_says_47 rfl rfl ?_
    refine ex_aload_n dX6_says_48 rfl rfl ?_
    refine ex_getR (b := 31) dX6_says_49 rfl qp_5_86 rfl rfl ?_
    refine ex_iload_n dX6_says_52 rfl rfl ?_
    refine ex_iaload (k := l) (x := nI (tn_b T l)) dX6_says_53 rfl rfl (rfl) (by omega) (by decide) (TR.bb h (by omega)) ?_
    refine ex_callS (rest := [.int 2, .ref 6]) dX6_says_54 rfl qp_5_89 rfl rfl rfl (Nat.le_of_ble_eq_true rfl) ((c_bitCount _ _).eq (by rw [jk_bc_nI _ (by omega)]) rfl) (Nat.le_of_ble_eq_true rfl) ?_
    show Ex qm_lay _ mX6_says 57 [some (.ref 4), some (.int 2), some (.ref 28), some (.int (nI l)), some (.int c), some (.int o), none] [.int (nI (tn_pc (tn_b T l))), .int 2, .ref 6] (qm_wF (qm_wF σ 4 0 c) 4 1 (nI l)) _ _
    refine ex_iastore (k := 2) (σ' := qm_wF (qm_wF (qm_wF σ 4 0 c) 4 1 (nI l)) 4 2 (nI (tn_pc (tn_b T l)))) dX6_says_57 rfl rfl (rfl) (by omega) (by decide) rfl ?_
    refine ex_aload_n dX6_says_58 rfl rfl ?_
    refine ex_getR (b := 6) dX6_says_59 rfl qp_5_30 rfl rfl ?_
    refine ex_iconst (x := 3) dX6_says_62 rfl rfl ?_
    refine ex_iload dX6_says_63 rfl rfl ?_
    refine ex_iastore (k := 3) (σ' := qm_wF (qm_wF (qm_wF (qm_wF σ 4 0 c) 4 1 (nI l)) 4 2 (nI (tn_pc (tn_b T l)))) 4 3 o) dX6_says_65 rfl rfl (rfl) (by omega) (by decide) rfl ?_
    refine ex_aload_n dX6_says_66 rfl rfl ?_
    refine ex_getR (b := 6) dX6_says_67 rfl qp_5_30 rfl rfl ?_
    refine ex_iconst (x := 4) dX6_says_70 rfl rfl ?_
    refine ex_aload_n dX6_says_71 rfl rfl ?_
    refine ex_getR (b := 30) dX6_says_72 rfl qp_5_95 rfl rfl ?_
    refine ex_iload_n dX6_says_75 rfl rfl ?_
    refine ex_iaload (k := l) (x := nI (tn_m T l)) dX6_says_76 rfl rfl (rfl) (by omega) (by decide) (TR.mm h (by omega)) ?_
    refine ex_iastore (k := 4) (σ' := qm_wF (qm_wF (qm_wF (qm_wF (qm_wF σ 4 0 c) 4 1 (nI l)) 4 2 (nI (tn_pc (tn_b T l)))) 4 3 o) 4 4 (nI (tn_m T l))) dX6_says_77 rfl rfl (rfl) (by omega) (by decide) rfl ?_
    refine ex_aload_n dX6_says_78 rfl rfl ?_
    refine ex_getR (b := 6) dX6_says_79 rfl qp_5_30 rfl rfl ?_
    refine ex_iconst (x := 5) dX6_says_82 rfl rfl ?_
    refine ex_aload_n dX6_says_83 rfl rfl ?_
    refine ex_getI (s := 13) (x := nI (tn_L T)) dX6_says_84 rfl qp_5_98 rfl rfl (h.1) ?_
    refine ex_iastore (k := 5) (σ' := qm_wF (qm_wF (qm_wF (qm_wF (qm_wF (qm_wF σ 4 0 c) 4 1 (nI l)) 4 2 (nI (tn_pc (tn_b T l)))) 4 3 o) 4 4 (nI (tn_m T l))) 4 5 (nI (tn_L T))) dX6_says_87 rfl rfl (rfl) (by omega) (by decide) rfl ?_
    refine ex_aload_n dX6_says_88 rfl rfl ?_
    refine ex_aload_n dX6_says_89 rfl rfl ?_
    refine ex_getR (b := 8) dX6_says_90 rfl qp_5_24 rfl rfl ?_
    refine ex_aload_n dX6_says_93 rfl rfl ?_
    refine ex_getI (s := 14) (x := nI (tn_w T)) dX6_says_94 rfl qp_5_77 rfl rfl (h.2.1) ?_
    refine ex_aaload (k := tn_w T) (r := 10 + tn_w T) dX6_says_97 rfl rfl (rfl) (by omega) (by decide) rfl ?_
    refine ex_aload_n dX6_says_98 rfl rfl ?_
    refine ex_getR (b := 9) dX6_says_99 rfl qp_5_27 rfl rfl ?_
    refine ex_aload_n dX6_says_102 rfl rfl ?_
    refine ex_getI (s := 14) (x := nI (tn_w T)) dX6_says_103 rfl qp_5_77 rfl rfl (h.2.1) ?_
    refine ex_aaload (k := tn_w T) (r := 16 + tn_w T) dX6_says_106 rfl rfl (rfl) (by omega) (by decide) rfl ?_
    refine ex_iload_n dX6_says_107 rfl rfl ?_
    refine ex_iaload (k := 2) (x := nI (gx_s X (tn_w T) 2)) dX6_says_108 rfl (lay_st hT.2.1) (rfl) (by omega) (by decide) ((by rw [rF_same hg (by omega)]; exact (hXC.2 _ hw).1 2 (by decide))) ?_
    refine ex_aload_n dX6_says_109 rfl rfl ?_
    refine ex_getR (b := 9) dX6_says_110 rfl qp_5_27 rfl rfl ?_
    refine ex_aload_n dX6_says_113 rfl rfl ?_
    refine ex_getI (s := 14) (x := nI (tn_w T)) dX6_says_114 rfl qp_5_77 rfl rfl (h.2.1) ?_
    refine ex_aaload (k := tn_w T) (r := 16 + tn_w T) dX6_says_117 rfl rfl (rfl) (by omega) (by decide) rfl ?_
    refine ex_iload_n dX6_says_118 rfl rfl ?_
    refine ex_iconst (x := 1) dX6_says_119 rfl rfl ?_
    refine ex_iadd (z := 3) dX6_says_120 rfl (nI_add 2 1) ?_
    refine ex_iaload (k := 3) (x := nI (gx_s X (tn_w T) 3)) dX6_says_121 rfl (lay_st hT.2.1) (rfl) (by omega) (by decide) ((by rw [rF_same hg (by omega)]; exact (hXC.2 _ hw).1 3 (by decide))) ?_
    refine ex_callV (a := 4) (rest := []) dX6_says_122 rfl qp_5_101 rfl rfl rfl rfl rfl (Nat.le_of_ble_eq_true rfl) (hO) (Nat.le_of_ble_eq_true rfl) ?_
    show Ex qm_lay _ mX6_says 125 [some (.ref 4), some (.int 2), some (.ref 28), some (.int (nI l)), some (.int c), some (.int o), none] [.int (sx_v T X 2 l c o)] σ' _ _
    refine ex_istore (ls' := [some (.ref 4), some (.int 2), some (.ref 28), some (.int (nI l)), some (.int c), some (.int o), some (.int (sx_v T X 2 l c o))]) dX6_says_125 rfl (Nat.le_of_ble_eq_true rfl) rfl rfl ?_
    refine ex_iload_n dX6_says_127 rfl rfl ?_
    refine ex_iconst (x := 2) dX6_says_128 rfl rfl ?_
    refine ex_icmp_ne (q := 143) (q2 := 132) dX6_says_129 rfl rfl (fun hh => absurd hh (by decide)) (fun _ => ?_)
    refine ex_iload dX6_says_132 rfl rfl ?_
    refine ex_if_eq (q := 141) (q2 := 137) dX6_says_134 rfl rfl (fun h134 => ?_) (fun h134 => ?_)
    · refine ex_iconst (x := 0) dX6_says_141 rfl rfl ?_
      exact ex_iret dX6_says_142 rfl (by rw [sx_says, if_pos rfl]; first | rw [if_neg h134] | rw [if_pos h134]) (rfl)
    · refine ex_iconst (x := 1) dX6_says_137 rfl rfl ?_
      refine ex_goto (q := 142) dX6_says_138 rfl ?_
      exact ex_iret dX6_says_142 rfl (by rw [sx_says, if_pos rfl]; first | rw [if_neg h134] | rw [if_pos h134]) (rfl)

set_option maxHeartbeats 2000000 in
theorem k_asksOf {σ : qm_St} {T : tn_T} {X : gx_T} (hT : tn_ok T) (hX : gx_ok X) (hw : tn_w T < gx_n X) (h : MR σ T) (hXM : XM σ X) {part l : Nat} (hp : part < 3) (hl : l < tn_L T) (c o : Int32) : ∃ σ', Ok qm_lay 10 mX9_asksOf [.ref 55, .int (nI part), .int (nI l), .int c, .int o] σ (some (.int (sx_says T X part l c o))) σ' ∧ sm σ σ' 36 36 57 59 := by
  have hL := hT.1
  have hw6 := hT.2.1
  have hX6 := hX.2.1
  have hbl := tn_b_lt hT hl
  have hg : sm σ (qm_wF (qm_wF (qm_wF (qm_wF (qm_wF (qm_wF σ 58 0 c) 58 1 (nI l)) 58 2 (nI (tn_pc (tn_b T l)))) 58 3 o) 58 4 (nI (tn_m T l))) 58 5 (nI (tn_L T))) 36 36 58 59 := ((((((sm.rf σ 36 36 58 59).wF _ (by omega)).wF _ (by omega)).wF _ (by omega)).wF _ (by omega)).wF _ (by omega)).wF _ (by omega)
  obtain ⟨e1, e2, e3⟩ := gx_le hX hw hp
  have e4 : gx_s X (tn_w T) (part + 1) = gx_s X (tn_w T) part + (gx_s X (tn_w T) (part + 1) - gx_s X (tn_w T) part) := by omega
  have e5 := ((hX.2.2 _ hw).2.2 part hp).2
  have hnm : ∀ i, i < 6 → qm_rF (qm_wF (qm_wF (qm_wF (qm_wF (qm_wF (qm_wF σ 58 0 c) 58 1 (nI l)) 58 2 (nI (tn_pc (tn_b T l)))) 58 3 o) 58 4 (nI (tn_m T l))) 58 5 (nI (tn_L T))) 58 i = sx_nm T l c o i := fun i hi => by
    have : i = 0 ∨ i = 1 ∨ i = 2 ∨ i = 3 ∨ i = 4 ∨ i = 5 := by omega
    rcases this with rfl | rfl | rfl | rfl | rfl | rfl <;> rfl
  obtain ⟨σ', hO, hs⟩ := k_says (σ := (qm_wF (qm_wF (qm_wF (qm_wF (qm_wF (qm_wF σ 58 0 c) 58 1 (nI l)) 58 2 (nI (tn_pc (tn_b T l)))) 58 3 o) 58 4 (nI (tn_m T l))) 58 5 (nI (tn_L T)))) (f := gx_c X (tn_w T)) (a := gx_s X (tn_w T) part) (n := gx_s X (tn_w T) (part + 1) - gx_s X (tn_w T) part) hw6 hp h.1.2.1 (by rw [rF_same hg (by omega)]; exact (hXM.2 _ hw).1 part (by omega)) (by rw [← e4, rF_same hg (by omega)]; exact (hXM.2 _ hw).1 (part + 1) (by omega)) (fun k hk => by rw [rF_same hg (by omega)]; exact (hXM.2 _ hw).2 _ (by omega)) hnm (by omega) e5
  refine ⟨σ', ?_, (hg.wid (by omega) (by omega)).tr (hs.wid (by omega) (by omega))⟩
  refine Ok.of (ls := [some (.ref 55), some (.int (nI part)), some (.int (nI l)), some (.int c), some (.int o), none]) (Nat.le_of_ble_eq_true rfl) rfl ?_
  have hp3 : part = 0 ∨ part = 1 ∨ part = 2 := by omega
  rcases hp3 with rfl | rfl | rfl
  · refine ex_aload_n dX9_asksOf_0 rfl rfl ?_
    refine ex_getR (b := 72) dX9_asksOf_1 rfl qp_8_58 rfl rfl ?_
    refine ex_iconst (x := 0) dX9_asksOf_4 rfl rfl ?_
    refine ex_iload_n dX9_asksOf_5 rfl rfl ?_
    refine ex_iastore (k := 0) (σ' := qm_wF σ 58 0 c) dX9_asksOf_6 rfl rfl (rfl) (by omega) (by decide) rfl ?_
    refine ex_aload_n dX9_asksOf_7 rfl rfl ?_
    refine ex_getR (b := 72) dX9_asksOf_8 rfl qp_8_58 rfl rfl ?_
    refine ex_iconst (x := 1) dX9_asksOf_11 rfl rfl ?_
    refine ex_iload_n dX9_asksOf_12 rfl rfl ?_
    refine ex_iastore (k := 1) (σ' := qm_wF (qm_wF σ 58 0 c) 58 1 (nI l)) dX9_asksOf_13 rfl rfl (rfl) (by omega) (by decide) rfl ?_
    refine ex_aload_n dX9_asksOf_14 rfl rfl ?_
    refine ex_getR (b := 72) dX9_asksOf_15 rfl qp_8_58 rfl rfl ?_
    refine ex_iconst (x := 2) dX9_asksOf_18 rfl rfl ?_
    refine ex_aload_n dX9_asksOf_19 rfl rfl ?_
    refine ex_getR (b := 58) dX9_asksOf_20 rfl qp_8_16 rfl rfl ?_
    refine ex_iload_n dX9_asksOf_23 rfl rfl ?_
    refine ex_iaload (k := l) (x := nI (tn_b T l)) dX9_asksOf_24 rfl rfl (rfl) (by omega) (by decide) (MR.bb h (by omega)) ?_
    refine ex_callS (rest := [.int 2, .ref 72]) dX9_asksOf_25 rfl qp_8_92 rfl rfl rfl (Nat.le_of_ble_eq_true rfl) (k_ones (by omega)) (Nat.le_of_ble_eq_true rfl) ?_
    show Ex qm_lay _ mX9_asksOf 28 [some (.ref 55), some (.int 0), some (.int (nI l)), some (.int c), some (.int o), none] [.int (nI (tn_pc (tn_b T l))), .int 2, .ref 72] (qm_wF (qm_wF σ 58 0 c) 58 1 (nI l)) _ _
    refine ex_iastore (k := 2) (σ' := qm_wF (qm_wF (qm_wF σ 58 0 c) 58 1 (nI l)) 58 2 (nI (tn_pc (tn_b T l)))) dX9_asksOf_28 rfl rfl (rfl) (by omega) (by decide) rfl ?_
    refine ex_aload_n dX9_asksOf_29 rfl rfl ?_
    refine ex_getR (b := 72) dX9_asksOf_30 rfl qp_8_58 rfl rfl ?_
    refine ex_iconst (x := 3) dX9_asksOf_33 rfl rfl ?_
    refine ex_iload dX9_asksOf_34 rfl rfl ?_
    refine ex_iastore (k := 3) (σ' := qm_wF (qm_wF (qm_wF (qm_wF σ 58 0 c) 58 1 (nI l)) 58 2 (nI (tn_pc (tn_b T l)))) 58 3 o) dX9_asksOf_36 rfl rfl (rfl) (by omega) (by decide) rfl ?_
    refine ex_aload_n dX9_asksOf_37 rfl rfl ?_
    refine ex_getR (b := 72) dX9_asksOf_38 rfl qp_8_58 rfl rfl ?_
    refine ex_iconst (x := 4) dX9_asksOf_41 rfl rfl ?_
    refine ex_aload_n dX9_asksOf_42 rfl rfl ?_
    refine ex_getR (b := 57) dX9_asksOf_43 rfl qp_8_13 rfl rfl ?_
    refine ex_iload_n dX9_asksOf_46 rfl rfl ?_
    refine ex_iaload (k := l) (x := nI (tn_m T l)) dX9_asksOf_47 rfl rfl (rfl) (by omega) (by decide) (MR.mm h (by omega)) ?_
    refine ex_iastore (k := 4) (σ' := qm_wF (qm_wF (qm_wF (qm_wF (qm_wF σ 58 0 c) 58 1 (nI l)) 58 2 (nI (tn_pc (tn_b T l)))) 58 3 o) 58 4 (nI (tn_m T l))) dX9_asksOf_48 rfl rfl (rfl) (by omega) (by decide) rfl ?_
    refine ex_aload_n dX9_asksOf_49 rfl rfl ?_
    refine ex_getR (b := 72) dX9_asksOf_50 rfl qp_8_58 rfl rfl ?_
    refine ex_iconst (x := 5) dX9_asksOf_53 rfl rfl ?_
    refine ex_aload_n dX9_asksOf_54 rfl rfl ?_
    refine ex_getI (s := 27) (x := nI (tn_L T)) dX9_asksOf_55 rfl qp_8_78 rfl rfl (h.1.1) ?_
    refine ex_iastore (k := 5) (σ' := qm_wF (qm_wF (qm_wF (qm_wF (qm_wF (qm_wF σ 58 0 c) 58 1 (nI l)) 58 2 (nI (tn_pc (tn_b T l)))) 58 3 o) 58 4 (nI (tn_m T l))) 58 5 (nI (tn_L T))) dX9_asksOf_58 rfl rfl (rfl) (by omega) (by decide) rfl ?_
    refine ex_aload_n dX9_asksOf_59 rfl rfl ?_
    refine ex_iload_n dX9_asksOf_60 rfl rfl ?_
    refine ex_callV (a := 55) (rest := []) dX9_asksOf_61 rfl qp_8_173 rfl rfl rfl rfl rfl (Nat.le_of_ble_eq_true rfl) (hO) (Nat.le_of_ble_eq_true rfl) ?_
    show Ex qm_lay _ mX9_asksOf 64 [some (.ref 55), some (.int 0), some (.int (nI l)), some (.int c), some (.int o), none] [.int (sx_v T X 0 l c o)] σ' _ _
    refine ex_istore (ls' := [some (.ref 55), some (.int 0), some (.int (nI l)), some (.int c), some (.int o), some (.int (sx_v T X 0 l c o))]) dX9_asksOf_64 rfl (Nat.le_of_ble_eq_true rfl) rfl rfl ?_
    refine ex_iload_n dX9_asksOf_66 rfl rfl ?_
    refine ex_iconst (x := 2) dX9_asksOf_67 rfl rfl ?_
    refine ex_icmp_ne (q := 84) (q2 := 71) dX9_asksOf_68 rfl rfl (fun _ => ?_) (fun hh => absurd (by decide) hh)
    refine ex_iload dX9_asksOf_84 rfl rfl ?_
    refine ex_iconst (x := 0) dX9_asksOf_86 rfl rfl ?_
    refine ex_bipush (x := 99) dX9_asksOf_87 rfl rfl ?_
    refine ex_callS (rest := []) dX9_asksOf_89 rfl qp_8_176 rfl rfl rfl (Nat.le_of_ble_eq_true rfl) (k_within _ _ _ _) (Nat.le_of_ble_eq_true rfl) ?_
    show Ex qm_lay _ mX9_asksOf 92 [some (.ref 55), some (.int 0), some (.int (nI l)), some (.int c), some (.int o), some (.int (sx_v T X 0 l c o))] [.int (tn_wn (sx_v T X 0 l c o) 0 99)] σ' _ _
    exact ex_iret dX9_asksOf_92 rfl rfl rfl
  · refine ex_aload_n dX9_asksOf_0 rfl rfl ?_
    refine ex_getR (b := 72) dX9_asksOf_1 rfl qp_8_58 rfl rfl ?_
    refine ex_iconst (x := 0) dX9_asksOf_4 rfl rfl ?_
    refine ex_iload_n dX9_asksOf_5 rfl rfl ?_
    refine ex_iastore (k := 0) (σ' := qm_wF σ 58 0 c) dX9_asksOf_6 rfl rfl (rfl) (by omega) (by decide) rfl ?_
    refine ex_aload_n dX9_asksOf_7 rfl rfl ?_
    refine ex_getR (b := 72) dX9_asksOf_8 rfl qp_8_58 rfl rfl ?_
    refine ex_iconst (x := 1) dX9_asksOf_11 rfl rfl ?_
    refine ex_iload_n dX9_asksOf_12 rfl rfl ?_
    refine ex_iastore (k := 1) (σ' := qm_wF (qm_wF σ 58 0 c) 58 1 (nI l)) dX9_asksOf_13 rfl rfl (rfl) (by omega) (by decide) rfl ?_
    refine ex_aload_n dX9_asksOf_14 rfl rfl ?_
    refine ex_getR (b := 72) dX9_asksOf_15 rfl qp_8_58 rfl rfl ?_
    refine ex_iconst (x := 2) dX9_asksOf_18 rfl rfl ?_
    refine ex_aload_n dX9_asksOf_19 rfl rfl ?_
    refine ex_getR (b := 58) dX9_asksOf_20 rfl qp_8_16 rfl rfl ?_
    refine ex_iload_n dX9_asksOf_23 rfl rfl ?_
    refine ex_iaload (k := l) (x := nI (tn_b T l)) dX9_asksOf_24 rfl rfl (rfl) (by omega) (by decide) (MR.bb h (by omega)) ?_
    refine ex_callS (rest := [.int 2, .ref 72]) dX9_asksOf_25 rfl qp_8_92 rfl rfl rfl (Nat.le_of_ble_eq_true rfl) (k_ones (by omega)) (Nat.le_of_ble_eq_true rfl) ?_
    show Ex qm_lay _ mX9_asksOf 28 [some (.ref 55), some (.int 1), some (.int (nI l)), some (.int c), some (.int o), none] [.int (nI (tn_pc (tn_b T l))), .int 2, .ref 72] (qm_wF (qm_wF σ 58 0 c) 58 1 (nI l)) _ _
    refine ex_iastore (k := 2) (σ' := qm_wF (qm_wF (qm_wF σ 58 0 c) 58 1 (nI l)) 58 2 (nI (tn_pc (tn_b T l)))) dX9_asksOf_28 rfl rfl (rfl) (by omega) (by decide) rfl ?_
    refine ex_aload_n dX9_asksOf_29 rfl rfl ?_
    refine ex_getR (b := 72) dX9_asksOf_30 rfl qp_8_58 rfl rfl ?_
    refine ex_iconst (x := 3) dX9_asksOf_33 rfl rfl ?_
    refine ex_iload dX9_asksOf_34 rfl rfl ?_
    refine ex_iastore (k := 3) (σ' := qm_wF (qm_wF (qm_wF (qm_wF σ 58 0 c) 58 1 (nI l)) 58 2 (nI (tn_pc (tn_b T l)))) 58 3 o) dX9_asksOf_36 rfl rfl (rfl) (by omega) (by decide) rfl ?_
    refine ex_aload_n dX9_asksOf_37 rfl rfl ?_
    refine ex_getR (b := 72) dX9_asksOf_38 rfl qp_8_58 rfl rfl ?_
    refine ex_iconst (x := 4) dX9_asksOf_41 rfl rfl ?_
    refine ex_aload_n dX9_asksOf_42 rfl rfl ?_
    refine ex_getR (b := 57) dX9_asksOf_43 rfl qp_8_13 rfl rfl ?_
    refine ex_iload_n dX9_asksOf_46 rfl rfl ?_
    refine ex_iaload (k := l) (x := nI (tn_m T l)) dX9_asksOf_47 rfl rfl (rfl) (by omega) (by decide) (MR.mm h (by omega)) ?_
    refine ex_iastore (k := 4) (σ' := qm_wF (qm_wF (qm_wF (qm_wF (qm_wF σ 58 0 c) 58 1 (nI l)) 58 2 (nI (tn_pc (tn_b T l)))) 58 3 o) 58 4 (nI (tn_m T l))) dX9_asksOf_48 rfl rfl (rfl) (by omega) (by decide) rfl ?_
    refine ex_aload_n dX9_asksOf_49 rfl rfl ?_
    refine ex_getR (b := 72) dX9_asksOf_50 rfl qp_8_58 rfl rfl ?_
    refine ex_iconst (x := 5) dX9_asksOf_53 rfl rfl ?_
    refine ex_aload_n dX9_asksOf_54 rfl rfl ?_
    refine ex_getI (s := 27) (x := nI (tn_L T)) dX9_asksOf_55 rfl qp_8_78 rfl rfl (h.1.1) ?_
    refine ex_iastore (k := 5) (σ' := qm_wF (qm_wF (qm_wF (qm_wF (qm_wF (qm_wF σ 58 0 c) 58 1 (nI l)) 58 2 (nI (tn_pc (tn_b T l)))) 58 3 o) 58 4 (nI (tn_m T l))) 58 5 (nI (tn_L T))) dX9_asksOf_58 rfl rfl (rfl) (by omega) (by decide) rfl ?_
    refine ex_aload_n dX9_asksOf_59 rfl rfl ?_
    refine ex_iload_n dX9_asksOf_60 rfl rfl ?_
    refine ex_callV (a := 55) (rest := []) dX9_asksOf_61 rfl qp_8_173 rfl rfl rfl rfl rfl (Nat.le_of_ble_eq_true rfl) (hO) (Nat.le_of_ble_eq_true rfl) ?_
    show Ex qm_lay _ mX9_asksOf 64 [some (.ref 55), some (.int 1), some (.int (nI l)), some (.int c), some (.int o), none] [.int (sx_v T X 1 l c o)] σ' _ _
    refine ex_istore (ls' := [some (.ref 55), some (.int 1), some (.int (nI l)), some (.int c), some (.int o), some (.int (sx_v T X 1 l c o))]) dX9_asksOf_64 rfl (Nat.le_of_ble_eq_true rfl) rfl rfl ?_
    refine ex_iload_n dX9_asksOf_66 rfl rfl ?_
    refine ex_iconst (x := 2) dX9_asksOf_67 rfl rfl ?_
    refine ex_icmp_ne (q := 84) (q2 := 71) dX9_asksOf_68 rfl rfl (fun _ => ?_) (fun hh => absurd (by decide) hh)
    refine ex_iload dX9_asksOf_84 rfl rfl ?_
    refine ex_iconst (x := 0) dX9_asksOf_86 rfl rfl ?_
    refine ex_bipush (x := 99) dX9_asksOf_87 rfl rfl ?_
    refine ex_callS (rest := []) dX9_asksOf_89 rfl qp_8_176 rfl rfl rfl (Nat.le_of_ble_eq_true rfl) (k_within _ _ _ _) (Nat.le_of_ble_eq_true rfl) ?_
    show Ex qm_lay _ mX9_asksOf 92 [some (.ref 55), some (.int 1), some (.int (nI l)), some (.int c), some (.int o), some (.int (sx_v T X 1 l c o))] [.int (tn_wn (sx_v T X 1 l c o) 0 99)] σ' _ _
    exact ex_iret dX9_asksOf_92 rfl rfl rfl
  · refine ex_aload_n dX9_asksOf_0 rfl rfl ?_
    refine ex_getR (b := 72) dX9_asksOf_1 rfl qp_8_58 rfl rfl ?_
    refine ex_iconst (x := 0) dX9_asksOf_4 rfl rfl ?_
    refine ex_iload_n dX9_asksOf_5 rfl rfl ?_
    refine ex_iastore (k := 0) (σ' := qm_wF σ 58 0 c) dX9_asksOf_6 rfl rfl (rfl) (by omega) (by decide) rfl ?_
    refine ex_aload_n dX9_asksOf_7 rfl rfl ?_
    refine ex_getR (b := 72) dX9_asksOf_8 rfl qp_8_58 rfl rfl ?_
    refine ex_iconst (x := 1) dX9_asksOf_11 rfl rfl ?_
    refine ex_iload_n dX9_asksOf_12 rfl rfl ?_
    refine ex_iastore (k := 1) (σ' := qm_wF (qm_wF σ 58 0 c) 58 1 (nI l)) dX9_asksOf_13 rfl rfl (rfl) (by omega) (by decide) rfl ?_
    refine ex_aload_n dX9_asksOf_14 rfl rfl ?_
    refine ex_getR (b := 72) dX9_asksOf_15 rfl qp_8_58 rfl rfl ?_
    refine ex_iconst (x := 2) dX9_asksOf_18 rfl rfl ?_
    refine ex_aload_n dX9_asksOf_19 rfl rfl ?_
    refine ex_getR (b := 58) dX9_asksOf_20 rfl qp_8_16 rfl rfl ?_
    refine ex_iload_n dX9_asksOf_23 rfl rfl ?_
    refine ex_iaload (k := l) (x := nI (tn_b T l)) dX9_asksOf_24 rfl rfl (rfl) (by omega) (by decide) (MR.bb h (by omega)) ?_
    refine ex_callS (rest := [.int 2, .ref 72]) dX9_asksOf_25 rfl qp_8_92 rfl rfl rfl (Nat.le_of_ble_eq_true rfl) (k_ones (by omega)) (Nat.le_of_ble_eq_true rfl) ?_
    show Ex qm_lay _ mX9_asksOf 28 [some (.ref 55), some (.int 2), some (.int (nI l)), some (.int c), some (.int o), none] [.int (nI (tn_pc (tn_b T l))), .int 2, .ref 72] (qm_wF (qm_wF σ 58 0 c) 58 1 (nI l)) _ _
    refine ex_iastore (k := 2) (σ' := qm_wF (qm_wF (qm_wF σ 58 0 c) 58 1 (nI l)) 58 2 (nI (tn_pc (tn_b T l)))) dX9_asksOf_28 rfl rfl (rfl) (by omega) (by decide) rfl ?_
    refine ex_aload_n dX9_asksOf_29 rfl rfl ?_
    refine ex_getR (b := 72) dX9_asksOf_30 rfl qp_8_58 rfl rfl ?_
    refine ex_iconst (x := 3) dX9_asksOf_33 rfl rfl ?_
    refine ex_iload dX9_asksOf_34 rfl rfl ?_
    refine ex_iastore (k := 3) (σ' := qm_wF (qm_wF (qm_wF (qm_wF σ 58 0 c) 58 1 (nI l)) 58 2 (nI (tn_pc (tn_b T l)))) 58 3 o) dX9_asksOf_36 rfl rfl (rfl) (by omega) (by decide) rfl ?_
    refine ex_aload_n dX9_asksOf_37 rfl rfl ?_
    refine ex_getR (b := 72) dX9_asksOf_38 rfl qp_8_58 rfl rfl ?_
    refine ex_iconst (x := 4) dX9_asksOf_41 rfl rfl ?_
    refine ex_aload_n dX9_asksOf_42 rfl rfl ?_
    refine ex_getR (b := 57) dX9_asksOf_43 rfl qp_8_13 rfl rfl ?_
    refine ex_iload_n dX9_asksOf_46 rfl rfl ?_
    refine ex_iaload (k := l) (x := nI (tn_m T l)) dX9_asksOf_47 rfl rfl (rfl) (by omega) (by decide) (MR.mm h (by omega)) ?_
    refine ex_iastore (k := 4) (σ' := qm_wF (qm_wF (qm_wF (qm_wF (qm_wF σ 58 0 c) 58 1 (nI l)) 58 2 (nI (tn_pc (tn_b T l)))) 58 3 o) 58 4 (nI (tn_m T l))) dX9_asksOf_48 rfl rfl (rfl) (by omega) (by decide) rfl ?_
    refine ex_aload_n dX9_asksOf_49 rfl rfl ?_
    refine ex_getR (b := 72) dX9_asksOf_50 rfl qp_8_58 rfl rfl ?_
    refine ex_iconst (x := 5) dX9_asksOf_53 rfl rfl ?_
    refine ex_aload_n dX9_asksOf_54 rfl rfl ?_
    refine ex_getI (s := 27) (x := nI (tn_L T)) dX9_asksOf_55 rfl qp_8_78 rfl rfl (h.1.1) ?_
    refine ex_iastore (k := 5) (σ' := qm_wF (qm_wF (qm_wF (qm_wF (qm_wF (qm_wF σ 58 0 c) 58 1 (nI l)) 58 2 (nI (tn_pc (tn_b T l)))) 58 3 o) 58 4 (nI (tn_m T l))) 58 5 (nI (tn_L T))) dX9_asksOf_58 rfl rfl (rfl) (by omega) (by decide) rfl ?_
    refine ex_aload_n dX9_asksOf_59 rfl rfl ?_
    refine ex_iload_n dX9_asksOf_60 rfl rfl ?_
    refine ex_callV (a := 55) (rest := []) dX9_asksOf_61 rfl qp_8_173 rfl rfl rfl rfl rfl (Nat.le_of_ble_eq_true rfl) (hO) (Nat.le_of_ble_eq_true rfl) ?_
    show Ex qm_lay _ mX9_asksOf 64 [some (.ref 55), some (.int 2), some (.int (nI l)), some (.int c), some (.int o), none] [.int (sx_v T X 2 l c o)] σ' _ _
    refine ex_istore (ls' := [some (.ref 55), some (.int 2), some (.int (nI l)), some (.int c), some (.int o), some (.int (sx_v T X 2 l c o))]) dX9_asksOf_64 rfl (Nat.le_of_ble_eq_true rfl) rfl rfl ?_
    refine ex_iload_n dX9_asksOf_66 rfl rfl ?_
    refine ex_iconst (x := 2) dX9_asksOf_67 rfl rfl ?_
    refine ex_icmp_ne (q := 84) (q2 := 71) dX9_asksOf_68 rfl rfl (fun hh => absurd hh (by decide)) (fun _ => ?_)
    refine ex_iload dX9_asksOf_71 rfl rfl ?_
    refine ex_if_ne (q := 80) (q2 := 76) dX9_asksOf_73 rfl rfl (fun h73 => ?_) (fun h73 => ?_)
    · refine ex_iconst (x := 1) dX9_asksOf_80 rfl rfl ?_
      refine ex_goto (q := 92) dX9_asksOf_81 rfl ?_
      exact ex_iret dX9_asksOf_92 rfl (by rw [sx_says, if_pos rfl]; first | rw [if_neg h73] | rw [if_pos (Decidable.not_not.mp h73)]) (rfl)
    · refine ex_iconst (x := 0) dX9_asksOf_76 rfl rfl ?_
      refine ex_goto (q := 92) dX9_asksOf_77 rfl ?_
      exact ex_iret dX9_asksOf_92 rfl (by rw [sx_says, if_pos rfl]; first | rw [if_neg h73] | rw [if_pos (Decidable.not_not.mp h73)]) (rfl)

theorem CG.says {σ σ' : qm_St} {T : tn_T} {X : gx_T} {P : gt_T} {Im : gi_T} {S : gs_T} (hX : gx_ok X) (h : CG σ (T, X, P, Im, S)) (g : sm σ σ' 8 8 4 6) : CG σ' (T, X, P, Im, S) := by
  have h6 := hX.2.1
  refine ⟨h.1.sm g (by omega) (by omega), ⟨by rw [g.1 _ (by omega)]; exact h.2.1.1, fun t ht => ⟨fun p hp => ?_, fun k hk => ?_⟩⟩, h.2.2.1.sm (g.em 9) (by omega) (by omega), h.2.2.2.1.sm (g.em 30) (by omega) (by omega), h.2.2.2.2.sm g (by omega)⟩
  · rw [rF_same g (by omega)]; exact (h.2.1.2 t ht).1 p hp
  · rw [rF_same g (by omega)]; exact (h.2.1.2 t ht).2 k hk
theorem MG.says {σ σ' : qm_St} {T : tn_T} {X : gx_T} {P : gt_T} {Im : gi_T} {S : gs_T} (h : MG σ (T, X, P, Im, S)) (g : sm σ σ' 36 36 57 59) : MG σ' (T, X, P, Im, S) :=
  ⟨h.1.sm g (by omega) (by omega), h.2.1.sm g (by omega) (by omega), h.2.2.1.sm g (by omega) (by omega), h.2.2.2.1.sm g (by omega) (by omega), h.2.2.2.2.1.sm g (by omega), h.2.2.2.2.2.sm g (by omega)⟩
set_option maxHeartbeats 2000000 in
theorem j_asks {T : tn_T} {X : gx_T} {P : gt_T} {Im : gi_T} {S : gs_T} (hG : gg_ok (T, X, P, Im, S)) (p l c o : Int32) : J mX8_asks mX9_asks [.int p, .int l, .int c, .int o] (T, X, P, Im, S) := by
  have hT : tn_ok T := hG.1
  have hX : gx_ok X := hG.2.1
  have hP : gt_ok P := hG.2.2.1
  have hI : gi_ok T (gx_n X) Im := hG.2.2.2.1
  have hS : gs_ok S := hG.2.2.2.2.1
  have hw : tn_w T < gx_n X := hG.2.2.2.2.2
  have hL := hT.1
  have hw6 := hT.2.1
  have hu := tn_u_lt hT
  have hX6 := hX.2.1
  have hP6 := hP.1
  by_cases c1 : tn_has T l = true
  · obtain ⟨l, hl, rfl⟩ := tn_has_of hT c1
    by_cases c2 : tn_in p 0 2 = true ∧ tn_in c 0 11 = true ∧ tn_in o 0 7 = true
    · obtain ⟨c2, c3, c4⟩ := c2
      obtain ⟨p, hp, rfl⟩ := tn_in_of (n := 2) (by decide) c2
      obtain ⟨o, ho, rfl⟩ := tn_in_of (n := 7) (by decide) c4
      refine J.u (.int (sx_says T X p l c (nI o))) (T, X, P, Im, S) hG (fun σ hC => ?_) (fun σ hM => ?_)
      · have h : TR σ 9 18 T := hC.1
        obtain ⟨σ', hO, hs⟩ := c_says_0 hT hX hw h hC.2.1 (show p < 3 by omega) hl c (nI o)
        refine ⟨σ', ?_, CG.says hX hC hs, (hs.em 0).wid (by omega) (by omega)⟩
        refine Ok.of (ls := [some (.ref 54), some (.int (nI p)), some (.int (nI l)), some (.int c), some (.int (nI o))]) (Nat.le_of_ble_eq_true rfl) rfl ?_
        refine ex_aload_n dX8_asks_0 rfl rfl ?_
        refine ex_getR (b := 22) dX8_asks_1 rfl qp_7_10 rfl rfl ?_
        refine ex_iload_n dX8_asks_4 rfl rfl ?_
        refine ex_callV (a := 22) (rest := []) dX8_asks_5 rfl qp_7_95 rfl rfl rfl rfl rfl (Nat.le_of_ble_eq_true rfl) (c_hasLot_0n hT h (by omega)) (Nat.le_of_ble_eq_true rfl) ?_
        show Ex qm_lay _ mX8_asks 8 [some (.ref 54), some (.int (nI p)), some (.int (nI l)), some (.int c), some (.int (nI o))] [.int 1] σ _ _
        refine ex_if_ne (q := 14) (q2 := 11) dX8_asks_8 rfl rfl (fun _ => ?_) (fun hh => absurd (by decide) hh)
        refine ex_iload_n dX8_asks_14 rfl rfl ?_
        refine ex_if_lt (q := 42) (q2 := 18) dX8_asks_15 rfl rfl (fun hh => absurd hh (nI_pos (by omega))) (fun _ => ?_)
        refine ex_iload_n dX8_asks_18 rfl rfl ?_
        refine ex_iconst (x := 2) dX8_asks_19 rfl rfl ?_
        refine ex_icmp_gt (q := 42) (q2 := 23) dX8_asks_20 rfl rfl (fun hh => absurd hh (nI_nlt (a := 2) (b := p) (by omega) (by omega))) (fun _ => ?_)
        refine ex_iload_n dX8_asks_23 rfl rfl ?_
        refine ex_callS (rest := []) dX8_asks_24 rfl qp_7_98 rfl rfl rfl (Nat.le_of_ble_eq_true rfl) (c_isColour _ _) (Nat.le_of_ble_eq_true rfl) ?_
        show Ex qm_lay _ mX8_asks 27 [some (.ref 54), some (.int (nI p)), some (.int (nI l)), some (.int c), some (.int (nI o))] [.int (b2i (tn_in c 0 11))] σ _ _
        refine ex_if_eq (q := 42) (q2 := 30) dX8_asks_27 rfl rfl (fun hh => absurd hh (b2i_n0.mpr (c3))) (fun _ => ?_)
        refine ex_iload dX8_asks_30 rfl rfl ?_
        refine ex_if_lt (q := 42) (q2 := 35) dX8_asks_32 rfl rfl (fun hh => absurd hh (nI_pos (by omega))) (fun _ => ?_)
        refine ex_iload dX8_asks_35 rfl rfl ?_
        refine ex_bipush (x := 7) dX8_asks_37 rfl rfl ?_
        refine ex_icmp_le (q := 45) (q2 := 42) dX8_asks_39 rfl rfl (fun _ => ?_) (fun hh => absurd (nI_le (a := o) (b := 7) (by omega) (by omega)) hh)
        refine ex_aload_n dX8_asks_45 rfl rfl ?_
        refine ex_getR (b := 4) dX8_asks_46 rfl qp_7_29 rfl rfl ?_
        refine ex_iload_n dX8_asks_49 rfl rfl ?_
        refine ex_aload_n dX8_asks_50 rfl rfl ?_
        refine ex_getR (b := 22) dX8_asks_51 rfl qp_7_10 rfl rfl ?_
        refine ex_iload_n dX8_asks_54 rfl rfl ?_
        refine ex_iload_n dX8_asks_55 rfl rfl ?_
        refine ex_iload dX8_asks_56 rfl rfl ?_
        refine ex_callV (a := 4) (rest := []) dX8_asks_58 rfl qp_7_101 rfl rfl rfl rfl rfl (Nat.le_of_ble_eq_true rfl) (hO) (Nat.le_of_ble_eq_true rfl) ?_
        show Ex qm_lay _ mX8_asks 61 [some (.ref 54), some (.int (nI p)), some (.int (nI l)), some (.int c), some (.int (nI o))] [.int (sx_says T X p l c (nI o))] σ' _ _
        exact ex_iret dX8_asks_61 rfl rfl rfl
      · have h : MR σ T := hM.1
        obtain ⟨σ', hO, hs⟩ := k_asksOf hT hX hw h hM.2.1 (show p < 3 by omega) hl c (nI o)
        refine ⟨σ', ?_, MG.says hM hs, hs.wid (by omega) (by omega)⟩
        refine Ok.of (ls := [some (.ref 55), some (.int (nI p)), some (.int (nI l)), some (.int c), some (.int (nI o))]) (Nat.le_of_ble_eq_true rfl) rfl ?_
        refine ex_aload_n dX9_asks_0 rfl rfl ?_
        refine ex_iload_n dX9_asks_1 rfl rfl ?_
        refine ex_callV (a := 55) (rest := []) dX9_asks_2 rfl qp_8_85 rfl rfl rfl rfl rfl (Nat.le_of_ble_eq_true rfl) (k_isLot_n hT h (by omega)) (Nat.le_of_ble_eq_true rfl) ?_
        show Ex qm_lay _ mX9_asks 5 [some (.ref 55), some (.int (nI p)), some (.int (nI l)), some (.int c), some (.int (nI o))] [.int 1] σ _ _
        refine ex_if_ne (q := 11) (q2 := 8) dX9_asks_5 rfl rfl (fun _ => ?_) (fun hh => absurd (by decide) hh)
        refine ex_iload_n dX9_asks_11 rfl rfl ?_
        refine ex_iconst (x := 0) dX9_asks_12 rfl rfl ?_
        refine ex_iconst (x := 2) dX9_asks_13 rfl rfl ?_
        refine ex_callS (rest := []) dX9_asks_14 rfl qp_8_81 rfl rfl rfl (Nat.le_of_ble_eq_true rfl) (k_in _ _ _ _) (Nat.le_of_ble_eq_true rfl) ?_
        show Ex qm_lay _ mX9_asks 17 [some (.ref 55), some (.int (nI p)), some (.int (nI l)), some (.int c), some (.int (nI o))] [.int (b2i (tn_in (nI p) 0 2))] σ _ _
        refine ex_if_eq (q := 53) (q2 := 20) dX9_asks_17 rfl rfl (fun hh => absurd hh (b2i_n0.mpr (c2))) (fun _ => ?_)
        refine ex_iload_n dX9_asks_20 rfl rfl ?_
        refine ex_iconst (x := 0) dX9_asks_21 rfl rfl ?_
        refine ex_bipush (x := 11) dX9_asks_22 rfl rfl ?_
        refine ex_callS (rest := []) dX9_asks_24 rfl qp_8_81 rfl rfl rfl (Nat.le_of_ble_eq_true rfl) (k_in _ _ _ _) (Nat.le_of_ble_eq_true rfl) ?_
        show Ex qm_lay _ mX9_asks 27 [some (.ref 55), some (.int (nI p)), some (.int (nI l)), some (.int c), some (.int (nI o))] [.int (b2i (tn_in c 0 11))] σ _ _
        refine ex_if_eq (q := 53) (q2 := 30) dX9_asks_27 rfl rfl (fun hh => absurd hh (b2i_n0.mpr (c3))) (fun _ => ?_)
        refine ex_iload dX9_asks_30 rfl rfl ?_
        refine ex_iconst (x := 0) dX9_asks_32 rfl rfl ?_
        refine ex_bipush (x := 7) dX9_asks_33 rfl rfl ?_
        refine ex_callS (rest := []) dX9_asks_35 rfl qp_8_81 rfl rfl rfl (Nat.le_of_ble_eq_true rfl) (k_in _ _ _ _) (Nat.le_of_ble_eq_true rfl) ?_
        show Ex qm_lay _ mX9_asks 38 [some (.ref 55), some (.int (nI p)), some (.int (nI l)), some (.int c), some (.int (nI o))] [.int (b2i (tn_in (nI o) 0 7))] σ _ _
        refine ex_if_eq (q := 53) (q2 := 41) dX9_asks_38 rfl rfl (fun hh => absurd hh (b2i_n0.mpr (c4))) (fun _ => ?_)
        refine ex_aload_n dX9_asks_41 rfl rfl ?_
        refine ex_iload_n dX9_asks_42 rfl rfl ?_
        refine ex_iload_n dX9_asks_43 rfl rfl ?_
        refine ex_iload_n dX9_asks_44 rfl rfl ?_
        refine ex_iload dX9_asks_45 rfl rfl ?_
        refine ex_callV (a := 55) (rest := []) dX9_asks_47 rfl qp_8_179 rfl rfl rfl rfl rfl (Nat.le_of_ble_eq_true rfl) (hO) (Nat.le_of_ble_eq_true rfl) ?_
        show Ex qm_lay _ mX9_asks 50 [some (.ref 55), some (.int (nI p)), some (.int (nI l)), some (.int c), some (.int (nI o))] [.int (sx_says T X p l c (nI o))] σ' _ _
        refine ex_goto (q := 55) dX9_asks_50 rfl ?_
        exact ex_iret dX9_asks_55 rfl rfl rfl
    · refine J.q hG (.int (-7)) (fun σ hC => ?_) (fun σ hM => ?_)
      · have h : TR σ 9 18 T := hC.1
        refine Ok.of (ls := [some (.ref 54), some (.int p), some (.int (nI l)), some (.int c), some (.int o)]) (Nat.le_of_ble_eq_true rfl) rfl ?_
        refine ex_aload_n dX8_asks_0 rfl rfl ?_
        refine ex_getR (b := 22) dX8_asks_1 rfl qp_7_10 rfl rfl ?_
        refine ex_iload_n dX8_asks_4 rfl rfl ?_
        refine ex_callV (a := 22) (rest := []) dX8_asks_5 rfl qp_7_95 rfl rfl rfl rfl rfl (Nat.le_of_ble_eq_true rfl) (c_hasLot_0n hT h (by omega)) (Nat.le_of_ble_eq_true rfl) ?_
        show Ex qm_lay _ mX8_asks 8 [some (.ref 54), some (.int p), some (.int (nI l)), some (.int c), some (.int o)] [.int 1] σ _ _
        refine ex_if_ne (q := 14) (q2 := 11) dX8_asks_8 rfl rfl (fun _ => ?_) (fun hh => absurd (by decide) hh)
        refine ex_iload_n dX8_asks_14 rfl rfl ?_
        refine ex_if_lt (q := 42) (q2 := 18) dX8_asks_15 rfl rfl (fun h15 => ?_) (fun h15 => ?_)
        · refine ex_bipush (x := (-7)) dX8_asks_42 rfl rfl ?_
          exact ex_iret dX8_asks_44 rfl rfl rfl
        · refine ex_iload_n dX8_asks_18 rfl rfl ?_
          refine ex_iconst (x := 2) dX8_asks_19 rfl rfl ?_
          refine ex_icmp_gt (q := 42) (q2 := 23) dX8_asks_20 rfl rfl (fun h20 => ?_) (fun h20 => ?_)
          · refine ex_bipush (x := (-7)) dX8_asks_42 rfl rfl ?_
            exact ex_iret dX8_asks_44 rfl rfl rfl
          · refine ex_iload_n dX8_asks_23 rfl rfl ?_
            refine ex_callS (rest := []) dX8_asks_24 rfl qp_7_98 rfl rfl rfl (Nat.le_of_ble_eq_true rfl) (c_isColour _ _) (Nat.le_of_ble_eq_true rfl) ?_
            show Ex qm_lay _ mX8_asks 27 [some (.ref 54), some (.int p), some (.int (nI l)), some (.int c), some (.int o)] [.int (b2i (tn_in c 0 11))] σ _ _
            refine ex_if_eq (q := 42) (q2 := 30) dX8_asks_27 rfl rfl (fun h27 => ?_) (fun h27 => ?_)
            · have hb27 : (tn_in c 0 11) = false := b2i_0.mp h27
              refine ex_bipush (x := (-7)) dX8_asks_42 rfl rfl ?_
              exact ex_iret dX8_asks_44 rfl rfl rfl
            · have hb27 : (tn_in c 0 11) = true := b2i_n0.mp h27
              refine ex_iload dX8_asks_30 rfl rfl ?_
              refine ex_if_lt (q := 42) (q2 := 35) dX8_asks_32 rfl rfl (fun h32 => ?_) (fun h32 => ?_)
              · refine ex_bipush (x := (-7)) dX8_asks_42 rfl rfl ?_
                exact ex_iret dX8_asks_44 rfl rfl rfl
              · refine ex_iload dX8_asks_35 rfl rfl ?_
                refine ex_bipush (x := 7) dX8_asks_37 rfl rfl ?_
                refine ex_icmp_le (q := 45) (q2 := 42) dX8_asks_39 rfl rfl (fun h39 => ?_) (fun h39 => ?_)
                · exact absurd ⟨decide_eq_true ⟨Int32.not_lt.mp h15, Int32.not_lt.mp h20⟩, hb27, decide_eq_true ⟨Int32.not_lt.mp h32, h39⟩⟩ c2
                · refine ex_bipush (x := (-7)) dX8_asks_42 rfl rfl ?_
                  exact ex_iret dX8_asks_44 rfl rfl rfl
      · have h : MR σ T := hM.1
        refine Ok.of (ls := [some (.ref 55), some (.int p), some (.int (nI l)), some (.int c), some (.int o)]) (Nat.le_of_ble_eq_true rfl) rfl ?_
        refine ex_aload_n dX9_asks_0 rfl rfl ?_
        refine ex_iload_n dX9_asks_1 rfl rfl ?_
        refine ex_callV (a := 55) (rest := []) dX9_asks_2 rfl qp_8_85 rfl rfl rfl rfl rfl (Nat.le_of_ble_eq_true rfl) (k_isLot_n hT h (by omega)) (Nat.le_of_ble_eq_true rfl) ?_
        show Ex qm_lay _ mX9_asks 5 [some (.ref 55), some (.int p), some (.int (nI l)), some (.int c), some (.int o)] [.int 1] σ _ _
        refine ex_if_ne (q := 11) (q2 := 8) dX9_asks_5 rfl rfl (fun _ => ?_) (fun hh => absurd (by decide) hh)
        refine ex_iload_n dX9_asks_11 rfl rfl ?_
        refine ex_iconst (x := 0) dX9_asks_12 rfl rfl ?_
        refine ex_iconst (x := 2) dX9_asks_13 rfl rfl ?_
        refine ex_callS (rest := []) dX9_asks_14 rfl qp_8_81 rfl rfl rfl (Nat.le_of_ble_eq_true rfl) (k_in _ _ _ _) (Nat.le_of_ble_eq_true rfl) ?_
        show Ex qm_lay _ mX9_asks 17 [some (.ref 55), some (.int p), some (.int (nI l)), some (.int c), some (.int o)] [.int (b2i (tn_in p 0 2))] σ _ _
        refine ex_if_eq (q := 53) (q2 := 20) dX9_asks_17 rfl rfl (fun h17 => ?_) (fun h17 => ?_)
        · have hb17 : (tn_in p 0 2) = false := b2i_0.mp h17
          refine ex_bipush (x := (-7)) dX9_asks_53 rfl rfl ?_
          exact ex_iret dX9_asks_55 rfl rfl rfl
        · have hb17 : (tn_in p 0 2) = true := b2i_n0.mp h17
          refine ex_iload_n dX9_asks_20 rfl rfl ?_
          refine ex_iconst (x := 0) dX9_asks_21 rfl rfl ?_
          refine ex_bipush (x := 11) dX9_asks_22 rfl rfl ?_
          refine ex_callS (rest := []) dX9_asks_24 rfl qp_8_81 rfl rfl rfl (Nat.le_of_ble_eq_true rfl) (k_in _ _ _ _) (Nat.le_of_ble_eq_true rfl) ?_
          show Ex qm_lay _ mX9_asks 27 [some (.ref 55), some (.int p), some (.int (nI l)), some (.int c), some (.int o)] [.int (b2i (tn_in c 0 11))] σ _ _
          refine ex_if_eq (q := 53) (q2 := 30) dX9_asks_27 rfl rfl (fun h27 => ?_) (fun h27 => ?_)
          · have hb27 : (tn_in c 0 11) = false := b2i_0.mp h27
            refine ex_bipush (x := (-7)) dX9_asks_53 rfl rfl ?_
            exact ex_iret dX9_asks_55 rfl rfl rfl
          · have hb27 : (tn_in c 0 11) = true := b2i_n0.mp h27
            refine ex_iload dX9_asks_30 rfl rfl ?_
            refine ex_iconst (x := 0) dX9_asks_32 rfl rfl ?_
            refine ex_bipush (x := 7) dX9_asks_33 rfl rfl ?_
            refine ex_callS (rest := []) dX9_asks_35 rfl qp_8_81 rfl rfl rfl (Nat.le_of_ble_eq_true rfl) (k_in _ _ _ _) (Nat.le_of_ble_eq_true rfl) ?_
            show Ex qm_lay _ mX9_asks 38 [some (.ref 55), some (.int p), some (.int (nI l)), some (.int c), some (.int o)] [.int (b2i (tn_in o 0 7))] σ _ _
            refine ex_if_eq (q := 53) (q2 := 41) dX9_asks_38 rfl rfl (fun h38 => ?_) (fun h38 => ?_)
            · have hb38 : (tn_in o 0 7) = false := b2i_0.mp h38
              refine ex_bipush (x := (-7)) dX9_asks_53 rfl rfl ?_
              exact ex_iret dX9_asks_55 rfl rfl rfl
            · have hb38 : (tn_in o 0 7) = true := b2i_n0.mp h38
              exact absurd ⟨hb17, hb27, hb38⟩ c2
  · refine J.q hG (.int (-5)) (fun σ hC => ?_) (fun σ hM => ?_)
    · have h : TR σ 9 18 T := hC.1
      refine Ok.of (ls := [some (.ref 54), some (.int p), some (.int l), some (.int c), some (.int o)]) (Nat.le_of_ble_eq_true rfl) rfl ?_
      refine ex_aload_n dX8_asks_0 rfl rfl ?_
      refine ex_getR (b := 22) dX8_asks_1 rfl qp_7_10 rfl rfl ?_
      refine ex_iload_n dX8_asks_4 rfl rfl ?_
      refine ex_callV (a := 22) (rest := []) dX8_asks_5 rfl qp_7_95 rfl rfl rfl rfl rfl (Nat.le_of_ble_eq_true rfl) (c_hasLot_0 hT h l) (Nat.le_of_ble_eq_true rfl) ?_
      show Ex qm_lay _ mX8_asks 8 [some (.ref 54), some (.int p), some (.int l), some (.int c), some (.int o)] [.int (b2i (tn_has T l))] σ _ _
      refine ex_if_ne (q := 14) (q2 := 11) dX8_asks_8 rfl rfl (fun hh => absurd hh (fun zz => zz (b2i_0.mpr (by simpa using c1)))) (fun _ => ?_)
      refine ex_bipush (x := (-5)) dX8_asks_11 rfl rfl ?_
      exact ex_iret dX8_asks_13 rfl rfl rfl
    · have h : MR σ T := hM.1
      refine Ok.of (ls := [some (.ref 55), some (.int p), some (.int l), some (.int c), some (.int o)]) (Nat.le_of_ble_eq_true rfl) rfl ?_
      refine ex_aload_n dX9_asks_0 rfl rfl ?_
      refine ex_iload_n dX9_asks_1 rfl rfl ?_
      refine ex_callV (a := 55) (rest := []) dX9_asks_2 rfl qp_8_85 rfl rfl rfl rfl rfl (Nat.le_of_ble_eq_true rfl) (k_isLot hT h l) (Nat.le_of_ble_eq_true rfl) ?_
      show Ex qm_lay _ mX9_asks 5 [some (.ref 55), some (.int p), some (.int l), some (.int c), some (.int o)] [.int (b2i (tn_has T l))] σ _ _
      refine ex_if_ne (q := 11) (q2 := 8) dX9_asks_5 rfl rfl (fun hh => absurd hh (fun zz => zz (b2i_0.mpr (by simpa using c1)))) (fun _ => ?_)
      refine ex_bipush (x := (-5)) dX9_asks_8 rfl rfl ?_
      exact ex_iret dX9_asks_10 rfl rfl rfl

