/-! ===== the library's bit counts ===== -/
def jk_u (x y : Int32) : Int32 := (x.toUInt32 >>> (y.toUInt32 &&& Int32.toUInt32 31)).toInt32
def jk_bc0 (x : Int32) : Int32 := x - (jk_u x 1 &&& 1431655765)
def jk_bc1 (x : Int32) : Int32 := (x &&& 858993459) + (jk_u x 2 &&& 858993459)
def jk_bc2 (x : Int32) : Int32 := (x + jk_u x 4) &&& 252645135
def jk_bc3 (x : Int32) : Int32 := x + jk_u x 8
def jk_bc4 (x : Int32) : Int32 := x + jk_u x 16
def jk_bc (x : Int32) : Int32 := jk_bc4 (jk_bc3 (jk_bc2 (jk_bc1 (jk_bc0 x)))) &&& 63
def jk_s (a k : Int32) (p : Int32 × Int32) : Int32 × Int32 := if p.2 ≤ a then p else (p.1 + k, jk_u p.2 k)
def jk_tz1 (x : Int32) : Int32 := (jk_s 4 2 (jk_s 16 4 (jk_s 256 8 (jk_s 65536 16 (1, x))))).1 + jk_u (jk_s 4 2 (jk_s 16 4 (jk_s 256 8 (jk_s 65536 16 (1, x))))).2 1
def jk_tz (i : Int32) : Int32 := if 0 < ((i ^^^ (-1)) &&& (i - 1)) then jk_tz1 ((i ^^^ (-1)) &&& (i - 1)) else ((i ^^^ (-1)) &&& (i - 1)) &&& 32
def jk_r (a k : Int32) (k2 : Int32) (p : Int32 × Int32) : Int32 × Int32 := if p.2 < a then p else (p.1 + k2, jk_u p.2 k)
def jk_lz1 (x : Int32) : Int32 := (jk_r 4 2 (-2) (jk_r 16 4 (-4) (jk_r 256 8 (-8) (jk_r 65536 16 (-16) (31, x))))).1 - jk_u (jk_r 4 2 (-2) (jk_r 16 4 (-4) (jk_r 256 8 (-8) (jk_r 65536 16 (-16) (31, x))))).2 1
def jk_lz (i : Int32) : Int32 := if 0 < i then jk_lz1 i else if i = 0 then 32 else 0

theorem c_bitCount {lay : List qm_LE} (σ : qm_St) (x : Int32) : Ok lay 0 mJ6_bitCount_0f7a4 [.int x] σ (some (.int (jk_bc x))) σ := by
  refine Ok.of (ls := [some (.int x)]) (Nat.le_of_ble_eq_true rfl) rfl ?_
  refine ex_iload_n dJ6_bitCount_0f7a4_0 rfl rfl ?_
  refine ex_iload_n dJ6_bitCount_0f7a4_1 rfl rfl ?_
  refine ex_iconst (x := 1) dJ6_bitCount_0f7a4_2 rfl rfl ?_
  refine ex_iushr (z := jk_u x 1) dJ6_bitCount_0f7a4_3 rfl (rfl) ?_
  refine ex_ldc_w (x := 1431655765) dJ6_bitCount_0f7a4_4 rfl qp_10_265 ?_
  refine ex_iand (z := (jk_u x 1) &&& 1431655765) dJ6_bitCount_0f7a4_7 rfl (rfl) ?_
  refine ex_isub (z := x - ((jk_u x 1) &&& 1431655765)) dJ6_bitCount_0f7a4_8 rfl (rfl) ?_
  refine ex_istore_n (ls' := [some (.int (x - ((jk_u x 1) &&& 1431655765)))]) dJ6_bitCount_0f7a4_9 rfl (Nat.le_of_ble_eq_true rfl) rfl rfl ?_
  refine ex_iload_n dJ6_bitCount_0f7a4_10 rfl rfl ?_
  refine ex_ldc_w (x := 858993459) dJ6_bitCount_0f7a4_11 rfl qp_10_266 ?_
  refine ex_iand (z := (x - ((jk_u x 1) &&& 1431655765)) &&& 858993459) dJ6_bitCount_0f7a4_14 rfl (rfl) ?_
  refine ex_iload_n dJ6_bitCount_0f7a4_15 rfl rfl ?_
  refine ex_iconst (x := 2) dJ6_bitCount_0f7a4_16 rfl rfl ?_
  refine ex_iushr (z := jk_u (x - ((jk_u x 1) &&& 1431655765)) 2) dJ6_bitCount_0f7a4_17 rfl (rfl) ?_
  refine ex_ldc_w (x := 858993459) dJ6_bitCount_0f7a4_18 rfl qp_10_266 ?_
  refine ex_iand (z := (jk_u (x - ((jk_u x 1) &&& 1431655765)) 2) &&& 858993459) dJ6_bitCount_0f7a4_21 rfl (rfl) ?_
  refine ex_iadd (z := ((x - ((jk_u x 1) &&& 1431655765)) &&& 858993459) + ((jk_u (x - ((jk_u x 1) &&& 1431655765)) 2) &&& 858993459)) dJ6_bitCount_0f7a4_22 rfl (rfl) ?_
  refine ex_istore_n (ls' := [some (.int (((x - ((jk_u x 1) &&& 1431655765)) &&& 858993459) + ((jk_u (x - ((jk_u x 1) &&& 1431655765)) 2) &&& 858993459)))]) dJ6_bitCount_0f7a4_23 rfl (Nat.le_of_ble_eq_true rfl) rfl rfl ?_
  refine ex_iload_n dJ6_bitCount_0f7a4_24 rfl rfl ?_
  refine ex_iload_n dJ6_bitCount_0f7a4_25 rfl rfl ?_
  refine ex_iconst (x := 4) dJ6_bitCount_0f7a4_26 rfl rfl ?_
  refine ex_iushr (z := jk_u (((x - ((jk_u x 1) &&& 1431655765)) &&& 858993459) + ((jk_u (x - ((jk_u x 1) &&& 1431655765)) 2) &&& 858993459)) 4) dJ6_bitCount_0f7a4_27 rfl (rfl) ?_
  refine ex_iadd (z := (((x - ((jk_u x 1) &&& 1431655765)) &&& 858993459) + ((jk_u (x - ((jk_u x 1) &&& 1431655765)) 2) &&& 858993459)) + (jk_u (((x - ((jk_u x 1) &&& 1431655765)) &&& 858993459) + ((jk_u (x - ((jk_u x 1) &&& 1431655765)) 2) &&& 858993459)) 4)) dJ6_bitCount_0f7a4_28 rfl (rfl) ?_
  refine ex_ldc_w (x := 252645135) dJ6_bitCount_0f7a4_29 rfl qp_10_267 ?_
  refine ex_iand (z := ((((x - ((jk_u x 1) &&& 1431655765)) &&& 858993459) + ((jk_u (x - ((jk_u x 1) &&& 1431655765)) 2) &&& 858993459)) + (jk_u (((x - ((jk_u x 1) &&& 1431655765)) &&& 858993459) + ((jk_u (x - ((jk_u x 1) &&& 1431655765)) 2) &&& 858993459)) 4)) &&& 252645135) dJ6_bitCount_0f7a4_32 rfl (rfl) ?_
  refine ex_istore_n (ls' := [some (.int (((((x - ((jk_u x 1) &&& 1431655765)) &&& 858993459) + ((jk_u (x - ((jk_u x 1) &&& 1431655765)) 2) &&& 858993459)) + (jk_u (((x - ((jk_u x 1) &&& 1431655765)) &&& 858993459) + ((jk_u (x - ((jk_u x 1) &&& 1431655765)) 2) &&& 858993459)) 4)) &&& 252645135))]) dJ6_bitCount_0f7a4_33 rfl (Nat.le_of_ble_eq_true rfl) rfl rfl ?_
  refine ex_iload_n dJ6_bitCount_0f7a4_34 rfl rfl ?_
  refine ex_iload_n dJ6_bitCount_0f7a4_35 rfl rfl ?_
  refine ex_bipush (x := 8) dJ6_bitCount_0f7a4_36 rfl rfl ?_
  refine ex_iushr (z := jk_u (((((x - ((jk_u x 1) &&& 1431655765)) &&& 858993459) + ((jk_u (x - ((jk_u x 1) &&& 1431655765)) 2) &&& 858993459)) + (jk_u (((x - ((jk_u x 1) &&& 1431655765)) &&& 858993459) + ((jk_u (x - ((jk_u x 1) &&& 1431655765)) 2) &&& 858993459)) 4)) &&& 252645135) 8) dJ6_bitCount_0f7a4_38 rfl (rfl) ?_
  refine ex_iadd (z := (((((x - ((jk_u x 1) &&& 1431655765)) &&& 858993459) + ((jk_u (x - ((jk_u x 1) &&& 1431655765)) 2) &&& 858993459)) + (jk_u (((x - ((jk_u x 1) &&& 1431655765)) &&& 858993459) + ((jk_u (x - ((jk_u x 1) &&& 1431655765)) 2) &&& 858993459)) 4)) &&& 252645135) + (jk_u (((((x - ((jk_u x 1) &&& 1431655765)) &&& 858993459) + ((jk_u (x - ((jk_u x 1) &&& 1431655765)) 2) &&& 858993459)) + (jk_u (((x - ((jk_u x 1) &&& 1431655765)) &&& 858993459) + ((jk_u (x - ((jk_u x 1) &&& 1431655765)) 2) &&& 858993459)) 4)) &&& 252645135) 8)) dJ6_bitCount_0f7a4_39 rfl (rfl) ?_
  refine ex_istore_n (ls' := [some (.int ((((((x - ((jk_u x 1) &&& 1431655765)) &&& 858993459) + ((jk_u (x - ((jk_u x 1) &&& 1431655765)) 2) &&& 858993459)) + (jk_u (((x - ((jk_u x 1) &&& 1431655765)) &&& 858993459) + ((jk_u (x - ((jk_u x 1) &&& 1431655765)) 2) &&& 858993459)) 4)) &&& 252645135) + (jk_u (((((x - ((jk_u x 1) &&& 1431655765)) &&& 858993459) + ((jk_u (x - ((jk_u x 1) &&& 1431655765)) 2) &&& 858993459)) + (jk_u (((x - ((jk_u x 1) &&& 1431655765)) &&& 858993459) + ((jk_u (x - ((jk_u x 1) &&& 1431655765)) 2) &&& 858993459)) 4)) &&& 252645135) 8)))]) dJ6_bitCount_0f7a4_40 rfl (Nat.le_of_ble_eq_true rfl) rfl rfl ?_
  refine ex_iload_n dJ6_bitCount_0f7a4_41 rfl rfl ?_
  refine ex_iload_n dJ6_bitCount_0f7a4_42 rfl rfl ?_
  refine ex_bipush (x := 16) dJ6_bitCount_0f7a4_43 rfl rfl ?_
  refine ex_iushr (z := jk_u ((((((x - ((jk_u x 1) &&& 1431655765)) &&& 858993459) + ((jk_u (x - ((jk_u x 1) &&& 1431655765)) 2) &&& 858993459)) + (jk_u (((x - ((jk_u x 1) &&& 1431655765)) &&& 858993459) + ((jk_u (x - ((jk_u x 1) &&& 1431655765)) 2) &&& 858993459)) 4)) &&& 252645135) + (jk_u (((((x - ((jk_u x 1) &&& 1431655765)) &&& 858993459) + ((jk_u (x - ((jk_u x 1) &&& 1431655765)) 2) &&& 858993459)) + (jk_u (((x - ((jk_u x 1) &&& 1431655765)) &&& 858993459) + ((jk_u (x - ((jk_u x 1) &&& 1431655765)) 2) &&& 858993459)) 4)) &&& 252645135) 8)) 16) dJ6_bitCount_0f7a4_45 rfl (rfl) ?_
  refine ex_iadd (z := ((((((x - ((jk_u x 1) &&& 1431655765)) &&& 858993459) + ((jk_u (x - ((jk_u x 1) &&& 1431655765)) 2) &&& 858993459)) + (jk_u (((x - ((jk_u x 1) &&& 1431655765)) &&& 858993459) + ((jk_u (x - ((jk_u x 1) &&& 1431655765)) 2) &&& 858993459)) 4)) &&& 252645135) + (jk_u (((((x - ((jk_u x 1) &&& 1431655765)) &&& 858993459) + ((jk_u (x - ((jk_u x 1) &&& 1431655765)) 2) &&& 858993459)) + (jk_u (((x - ((jk_u x 1) &&& 1431655765)) &&& 858993459) + ((jk_u (x - ((jk_u x 1) &&& 1431655765)) 2) &&& 858993459)) 4)) &&& 252645135) 8)) + (jk_u ((((((x - ((jk_u x 1) &&& 1431655765)) &&& 858993459) + ((jk_u (x - ((jk_u x 1) &&& 1431655765)) 2) &&& 858993459)) + (jk_u (((x - ((jk_u x 1) &&& 1431655765)) &&& 858993459) + ((jk_u (x - ((jk_u x 1) &&& 1431655765)) 2) &&& 858993459)) 4)) &&& 252645135) + (jk_u (((((x - ((jk_u x 1) &&& 1431655765)) &&& 858993459) + ((jk_u (x - ((jk_u x 1) &&& 1431655765)) 2) &&& 858993459)) + (jk_u (((x - ((jk_u x 1) &&& 1431655765)) &&& 858993459) + ((jk_u (x - ((jk_u x 1) &&& 1431655765)) 2) &&& 858993459)) 4)) &&& 252645135) 8)) 16)) dJ6_bitCount_0f7a4_46 rfl (rfl) ?_
  refine ex_istore_n (ls' := [some (.int (((((((x - ((jk_u x 1) &&& 1431655765)) &&& 858993459) + ((jk_u (x - ((jk_u x 1) &&& 1431655765)) 2) &&& 858993459)) + (jk_u (((x - ((jk_u x 1) &&& 1431655765)) &&& 858993459) + ((jk_u (x - ((jk_u x 1) &&& 1431655765)) 2) &&& 858993459)) 4)) &&& 252645135) + (jk_u (((((x - ((jk_u x 1) &&& 1431655765)) &&& 858993459) + ((jk_u (x - ((jk_u x 1) &&& 1431655765)) 2) &&& 858993459)) + (jk_u (((x - ((jk_u x 1) &&& 1431655765)) &&& 858993459) + ((jk_u (x - ((jk_u x 1) &&& 1431655765)) 2) &&& 858993459)) 4)) &&& 252645135) 8)) + (jk_u ((((((x - ((jk_u x 1) &&& 1431655765)) &&& 858993459) + ((jk_u (x - ((jk_u x 1) &&& 1431655765)) 2) &&& 858993459)) + (jk_u (((x - ((jk_u x 1) &&& 1431655765)) &&& 858993459) + ((jk_u (x - ((jk_u x 1) &&& 1431655765)) 2) &&& 858993459)) 4)) &&& 252645135) + (jk_u (((((x - ((jk_u x 1) &&& 1431655765)) &&& 858993459) + ((jk_u (x - ((jk_u x 1) &&& 1431655765)) 2) &&& 858993459)) + (jk_u (((x - ((jk_u x 1) &&& 1431655765)) &&& 858993459) + ((jk_u (x - ((jk_u x 1) &&& 1431655765)) 2) &&& 858993459)) 4)) &&& 252645135) 8)) 16)))]) dJ6_bitCount_0f7a4_47 rfl (Nat.le_of_ble_eq_true rfl) rfl rfl ?_
  refine ex_iload_n dJ6_bitCount_0f7a4_48 rfl rfl ?_
  refine ex_bipush (x := 63) dJ6_bitCount_0f7a4_49 rfl rfl ?_
  refine ex_iand (z := (((((((x - ((jk_u x 1) &&& 1431655765)) &&& 858993459) + ((jk_u (x - ((jk_u x 1) &&& 1431655765)) 2) &&& 858993459)) + (jk_u (((x - ((jk_u x 1) &&& 1431655765)) &&& 858993459) + ((jk_u (x - ((jk_u x 1) &&& 1431655765)) 2) &&& 858993459)) 4)) &&& 252645135) + (jk_u (((((x - ((jk_u x 1) &&& 1431655765)) &&& 858993459) + ((jk_u (x - ((jk_u x 1) &&& 1431655765)) 2) &&& 858993459)) + (jk_u (((x - ((jk_u x 1) &&& 1431655765)) &&& 858993459) + ((jk_u (x - ((jk_u x 1) &&& 1431655765)) 2) &&& 858993459)) 4)) &&& 252645135) 8)) + (jk_u ((((((x - ((jk_u x 1) &&& 1431655765)) &&& 858993459) + ((jk_u (x - ((jk_u x 1) &&& 1431655765)) 2) &&& 858993459)) + (jk_u (((x - ((jk_u x 1) &&& 1431655765)) &&& 858993459) + ((jk_u (x - ((jk_u x 1) &&& 1431655765)) 2) &&& 858993459)) 4)) &&& 252645135) + (jk_u (((((x - ((jk_u x 1) &&& 1431655765)) &&& 858993459) + ((jk_u (x - ((jk_u x 1) &&& 1431655765)) 2) &&& 858993459)) + (jk_u (((x - ((jk_u x 1) &&& 1431655765)) &&& 858993459) + ((jk_u (x - ((jk_u x 1) &&& 1431655765)) 2) &&& 858993459)) 4)) &&& 252645135) 8)) 16)) &&& 63) dJ6_bitCount_0f7a4_51 rfl (rfl) ?_
  exact ex_iret dJ6_bitCount_0f7a4_52 rfl rfl rfl

set_option maxHeartbeats 4000000 in
theorem c_tz1 {lay : List qm_LE} {d : Nat} (σ : qm_St) (x : Int32) : Ex lay d mJ6_numberOfTrailingZeros_0f7a4 17 [some (.int x), none] [] σ (some (.int (jk_tz1 x))) σ := by
  refine ex_iconst (x := 1) dJ6_numberOfTrailingZeros_0f7a4_17 rfl rfl ?_
  refine ex_istore_n (ls' := [some (.int x), some (.int 1)]) dJ6_numberOfTrailingZeros_0f7a4_18 rfl (Nat.le_of_ble_eq_true rfl) rfl rfl ?_
  refine ex_iload_n dJ6_numberOfTrailingZeros_0f7a4_19 rfl rfl ?_
  refine ex_ldc_w (x := 65536) dJ6_numberOfTrailingZeros_0f7a4_20 rfl qp_10_264 ?_
  refine ex_icmp_le (q := 34) (q2 := 26) dJ6_numberOfTrailingZeros_0f7a4_23 rfl rfl (fun h23 => ?_) (fun h23 => ?_)
  · refine ex_iload_n dJ6_numberOfTrailingZeros_0f7a4_34 rfl rfl ?_
    refine ex_sipush (x := 256) dJ6_numberOfTrailingZeros_0f7a4_35 rfl rfl ?_
    refine ex_icmp_le (q := 49) (q2 := 41) dJ6_numberOfTrailingZeros_0f7a4_38 rfl rfl (fun h38 => ?_) (fun h38 => ?_)
    · refine ex_iload_n dJ6_numberOfTrailingZeros_0f7a4_49 rfl rfl ?_
      refine ex_bipush (x := 16) dJ6_numberOfTrailingZeros_0f7a4_50 rfl rfl ?_
      refine ex_icmp_le (q := 62) (q2 := 55) dJ6_numberOfTrailingZeros_0f7a4_52 rfl rfl (fun h52 => ?_) (fun h52 => ?_)
      · refine ex_iload_n dJ6_numberOfTrailingZeros_0f7a4_62 rfl rfl ?_
        refine ex_iconst (x := 4) dJ6_numberOfTrailingZeros_0f7a4_63 rfl rfl ?_
        refine ex_icmp_le (q := 74) (q2 := 67) dJ6_numberOfTrailingZeros_0f7a4_64 rfl rfl (fun h64 => ?_) (fun h64 => ?_)
        · refine ex_iload_n dJ6_numberOfTrailingZeros_0f7a4_74 rfl rfl ?_
          refine ex_iload_n dJ6_numberOfTrailingZeros_0f7a4_75 rfl rfl ?_
          refine ex_iconst (x := 1) dJ6_numberOfTrailingZeros_0f7a4_76 rfl rfl ?_
          refine ex_iushr (z := jk_u x 1) dJ6_numberOfTrailingZeros_0f7a4_77 rfl (rfl) ?_
          refine ex_iadd (z := 1 + (jk_u x 1)) dJ6_numberOfTrailingZeros_0f7a4_78 rfl (rfl) ?_
          exact ex_iret dJ6_numberOfTrailingZeros_0f7a4_79 rfl (by simp only [jk_tz1, jk_s, h23, h38, h52, h64, if_true, if_false]; try rfl) (rfl)
        · refine ex_iinc (y := 3) (ls' := [some (.int x), some (.int 3)]) dJ6_numberOfTrailingZeros_0f7a4_67 rfl rfl rfl (rfl) rfl ?_
          refine ex_iload_n dJ6_numberOfTrailingZeros_0f7a4_70 rfl rfl ?_
          refine ex_iconst (x := 2) dJ6_numberOfTrailingZeros_0f7a4_71 rfl rfl ?_
          refine ex_iushr (z := jk_u x 2) dJ6_numberOfTrailingZeros_0f7a4_72 rfl (rfl) ?_
          refine ex_istore_n (ls' := [some (.int (jk_u x 2)), some (.int 3)]) dJ6_numberOfTrailingZeros_0f7a4_73 rfl (Nat.le_of_ble_eq_true rfl) rfl rfl ?_
          refine ex_iload_n dJ6_numberOfTrailingZeros_0f7a4_74 rfl rfl ?_
          refine ex_iload_n dJ6_numberOfTrailingZeros_0f7a4_75 rfl rfl ?_
          refine ex_iconst (x := 1) dJ6_numberOfTrailingZeros_0f7a4_76 rfl rfl ?_
          refine ex_iushr (z := jk_u (jk_u x 2) 1) dJ6_numberOfTrailingZeros_0f7a4_77 rfl (rfl) ?_
          refine ex_iadd (z := 3 + (jk_u (jk_u x 2) 1)) dJ6_numberOfTrailingZeros_0f7a4_78 rfl (rfl) ?_
          exact ex_iret dJ6_numberOfTrailingZeros_0f7a4_79 rfl (by simp only [jk_tz1, jk_s, h23, h38, h52, h64, if_true, if_false]; try rfl) (rfl)
      · refine ex_iinc (y := 5) (ls' := [some (.int x), some (.int 5)]) dJ6_numberOfTrailingZeros_0f7a4_55 rfl rfl rfl (rfl) rfl ?_
        refine ex_iload_n dJ6_numberOfTrailingZeros_0f7a4_58 rfl rfl ?_
        refine ex_iconst (x := 4) dJ6_numberOfTrailingZeros_0f7a4_59 rfl rfl ?_
        refine ex_iushr (z := jk_u x 4) dJ6_numberOfTrailingZeros_0f7a4_60 rfl (rfl) ?_
        refine ex_istore_n (ls' := [some (.int (jk_u x 4)), some (.int 5)]) dJ6_numberOfTrailingZeros_0f7a4_61 rfl (Nat.le_of_ble_eq_true rfl) rfl rfl ?_
        refine ex_iload_n dJ6_numberOfTrailingZeros_0f7a4_62 rfl rfl ?_
        refine ex_iconst (x := 4) dJ6_numberOfTrailingZeros_0f7a4_63 rfl rfl ?_
        refine ex_icmp_le (q := 74) (q2 := 67) dJ6_numberOfTrailingZeros_0f7a4_64 rfl rfl (fun h64 => ?_) (fun h64 => ?_)
        · refine ex_iload_n dJ6_numberOfTrailingZeros_0f7a4_74 rfl rfl ?_
          refine ex_iload_n dJ6_numberOfTrailingZeros_0f7a4_75 rfl rfl ?_
          refine ex_iconst (x := 1) dJ6_numberOfTrailingZeros_0f7a4_76 rfl rfl ?_
          refine ex_iushr (z := jk_u (jk_u x 4) 1) dJ6_numberOfTrailingZeros_0f7a4_77 rfl (rfl) ?_
          refine ex_iadd (z := 5 + (jk_u (jk_u x 4) 1)) dJ6_numberOfTrailingZeros_0f7a4_78 rfl (rfl) ?_
          exact ex_iret dJ6_numberOfTrailingZeros_0f7a4_79 rfl (by simp only [jk_tz1, jk_s, h23, h38, h52, h64, if_true, if_false]; try rfl) (rfl)
        · refine ex_iinc (y := 7) (ls' := [some (.int (jk_u x 4)), some (.int 7)]) dJ6_numberOfTrailingZeros_0f7a4_67 rfl rfl rfl (rfl) rfl ?_
          refine ex_iload_n dJ6_numberOfTrailingZeros_0f7a4_70 rfl rfl ?_
          refine ex_iconst (x := 2) dJ6_numberOfTrailingZeros_0f7a4_71 rfl rfl ?_
          refine ex_iushr (z := jk_u (jk_u x 4) 2) dJ6_numberOfTrailingZeros_0f7a4_72 rfl (rfl) ?_
          refine ex_istore_n (ls' := [some (.int (jk_u (jk_u x 4) 2)), some (.int 7)]) dJ6_numberOfTrailingZeros_0f7a4_73 rfl (Nat.le_of_ble_eq_true rfl) rfl rfl ?_
          refine ex_iload_n dJ6_numberOfTrailingZeros_0f7a4_74 rfl rfl ?_
          refine ex_iload_n dJ6_numberOfTrailingZeros_0f7a4_75 rfl rfl ?_
          refine ex_iconst (x := 1) dJ6_numberOfTrailingZeros_0f7a4_76 rfl rfl ?_
          refine ex_iushr (z := jk_u (jk_u (jk_u x 4) 2) 1) dJ6_numberOfTrailingZeros_0f7a4_77 rfl (rfl) ?_
          refine ex_iadd (z := 7 + (jk_u (jk_u (jk_u x 4) 2) 1)) dJ6_numberOfTrailingZeros_0f7a4_78 rfl (rfl) ?_
          exact ex_iret dJ6_numberOfTrailingZeros_0f7a4_79 rfl (by simp only [jk_tz1, jk_s, h23, h38, h52, h64, if_true, if_false]; try rfl) (rfl)
    · refine ex_iinc (y := 9) (ls' := [some (.int x), some (.int 9)]) dJ6_numberOfTrailingZeros_0f7a4_41 rfl rfl rfl (rfl) rfl ?_
      refine ex_iload_n dJ6_numberOfTrailingZeros_0f7a4_44 rfl rfl ?_
      refine ex_bipush (x := 8) dJ6_numberOfTrailingZeros_0f7a4_45 rfl rfl ?_
      refine ex_iushr (z := jk_u x 8) dJ6_numberOfTrailingZeros_0f7a4_47 rfl (rfl) ?_
      refine ex_istore_n (ls' := [some (.int (jk_u x 8)), some (.int 9)]) dJ6_numberOfTrailingZeros_0f7a4_48 rfl (Nat.le_of_ble_eq_true rfl) rfl rfl ?_
      refine ex_iload_n dJ6_numberOfTrailingZeros_0f7a4_49 rfl rfl ?_
      refine ex_bipush (x := 16) dJ6_numberOfTrailingZeros_0f7a4_50 rfl rfl ?_
      refine ex_icmp_le (q := 62) (q2 := 55) dJ6_numberOfTrailingZeros_0f7a4_52 rfl rfl (fun h52 => ?_) (fun h52 => ?_)
      · refine ex_iload_n dJ6_numberOfTrailingZeros_0f7a4_62 rfl rfl ?_
        refine ex_iconst (x := 4) dJ6_numberOfTrailingZeros_0f7a4_63 rfl rfl ?_
        refine ex_icmp_le (q := 74) (q2 := 67) dJ6_numberOfTrailingZeros_0f7a4_64 rfl rfl (fun h64 => ?_) (fun h64 => ?_)
        · refine ex_iload_n dJ6_numberOfTrailingZeros_0f7a4_74 rfl rfl ?_
          refine ex_iload_n dJ6_numberOfTrailingZeros_0f7a4_75 rfl rfl ?_
          refine ex_iconst (x := 1) dJ6_numberOfTrailingZeros_0f7a4_76 rfl rfl ?_
          refine ex_iushr (z := jk_u (jk_u x 8) 1) dJ6_numberOfTrailingZeros_0f7a4_77 rfl (rfl) ?_
          refine ex_iadd (z := 9 + (jk_u (jk_u x 8) 1)) dJ6_numberOfTrailingZeros_0f7a4_78 rfl (rfl) ?_
          exact ex_iret dJ6_numberOfTrailingZeros_0f7a4_79 rfl (by simp only [jk_tz1, jk_s, h23, h38, h52, h64, if_true, if_false]; try rfl) (rfl)
        · refine ex_iinc (y := 11) (ls' := [some (.int (jk_u x 8)), some (.int 11)]) dJ6_numberOfTrailingZeros_0f7a4_67 rfl rfl rfl (rfl) rfl ?_
          refine ex_iload_n dJ6_numberOfTrailingZeros_0f7a4_70 rfl rfl ?_
          refine ex_iconst (x := 2) dJ6_numberOfTrailingZeros_0f7a4_71 rfl rfl ?_
          refine ex_iushr (z := jk_u (jk_u x 8) 2) dJ6_numberOfTrailingZeros_0f7a4_72 rfl (rfl) ?_
          refine ex_istore_n (ls' := [some (.int (jk_u (jk_u x 8) 2)), some (.int 11)]) dJ6_numberOfTrailingZeros_0f7a4_73 rfl (Nat.le_of_ble_eq_true rfl) rfl rfl ?_
          refine ex_iload_n dJ6_numberOfTrailingZeros_0f7a4_74 rfl rfl ?_
          refine ex_iload_n dJ6_numberOfTrailingZeros_0f7a4_75 rfl rfl ?_
          refine ex_iconst (x := 1) dJ6_numberOfTrailingZeros_0f7a4_76 rfl rfl ?_
          refine ex_iushr (z := jk_u (jk_u (jk_u x 8) 2) 1) dJ6_numberOfTrailingZeros_0f7a4_77 rfl (rfl) ?_
          refine ex_iadd (z := 11 + (jk_u (jk_u (jk_u x 8) 2) 1)) dJ6_numberOfTrailingZeros_0f7a4_78 rfl (rfl) ?_
          exact ex_iret dJ6_numberOfTrailingZeros_0f7a4_79 rfl (by simp only [jk_tz1, jk_s, h23, h38, h52, h64, if_true, if_false]; try rfl) (rfl)
      · refine ex_iinc (y := 13) (ls' := [some (.int (jk_u x 8)), some (.int 13)]) dJ6_numberOfTrailingZeros_0f7a4_55 rfl rfl rfl (rfl) rfl ?_
        refine ex_iload_n dJ6_numberOfTrailingZeros_0f7a4_58 rfl rfl ?_
        refine ex_iconst (x := 4) dJ6_numberOfTrailingZeros_0f7a4_59 rfl rfl ?_
        refine ex_iushr (z := jk_u (jk_u x 8) 4) dJ6_numberOfTrailingZeros_0f7a4_60 rfl (rfl) ?_
        refine ex_istore_n (ls' := [some (.int (jk_u (jk_u x 8) 4)), some (.int 13)]) dJ6_numberOfTrailingZeros_0f7a4_61 rfl (Nat.le_of_ble_eq_true rfl) rfl rfl ?_
        refine ex_iload_n dJ6_numberOfTrailingZeros_0f7a4_62 rfl rfl ?_
        refine ex_iconst (x := 4) dJ6_numberOfTrailingZeros_0f7a4_63 rfl rfl ?_
        refine ex_icmp_le (q := 74) (q2 := 67) dJ6_numberOfTrailingZeros_0f7a4_64 rfl rfl (fun h64 => ?_) (fun h64 => ?_)
        · refine ex_iload_n dJ6_numberOfTrailingZeros_0f7a4_74 rfl rfl ?_
          refine ex_iload_n dJ6_numberOfTrailingZeros_0f7a4_75 rfl rfl ?_
          refine ex_iconst (x := 1) dJ6_numberOfTrailingZeros_0f7a4_76 rfl rfl ?_
          refine ex_iushr (z := jk_u (jk_u (jk_u x 8) 4) 1) dJ6_numberOfTrailingZeros_0f7a4_77 rfl (rfl) ?_
          refine ex_iadd (z := 13 + (jk_u (jk_u (jk_u x 8) 4) 1)) dJ6_numberOfTrailingZeros_0f7a4_78 rfl (rfl) ?_
          exact ex_iret dJ6_numberOfTrailingZeros_0f7a4_79 rfl (by simp only [jk_tz1, jk_s, h23, h38, h52, h64, if_true, if_false]; try rfl) (rfl)
        · refine ex_iinc (y := 15) (ls' := [some (.int (jk_u (jk_u x 8) 4)), some (.int 15)]) dJ6_numberOfTrailingZeros_0f7a4_67 rfl rfl rfl (rfl) rfl ?_
          refine ex_iload_n dJ6_numberOfTrailingZeros_0f7a4_70 rfl rfl ?_
          refine ex_iconst (x := 2) dJ6_numberOfTrailingZeros_0f7a4_71 rfl rfl ?_
          refine ex_iushr (z := jk_u (jk_u (jk_u x 8) 4) 2) dJ6_numberOfTrailingZeros_0f7a4_72 rfl (rfl) ?_
          refine ex_istore_n (ls' := [some (.int (jk_u (jk_u (jk_u x 8) 4) 2)), some (.int 15)]) dJ6_numberOfTrailingZeros_0f7a4_73 rfl (Nat.le_of_ble_eq_true rfl) rfl rfl ?_
          refine ex_iload_n dJ6_numberOfTrailingZeros_0f7a4_74 rfl rfl ?_
          refine ex_iload_n dJ6_numberOfTrailingZeros_0f7a4_75 rfl rfl ?_
          refine ex_iconst (x := 1) dJ6_numberOfTrailingZeros_0f7a4_76 rfl rfl ?_
          refine ex_iushr (z := jk_u (jk_u (jk_u (jk_u x 8) 4) 2) 1) dJ6_numberOfTrailingZeros_0f7a4_77 rfl (rfl) ?_
          refine ex_iadd (z := 15 + (jk_u (jk_u (jk_u (jk_u x 8) 4) 2) 1)) dJ6_numberOfTrailingZeros_0f7a4_78 rfl (rfl) ?_
          exact ex_iret dJ6_numberOfTrailingZeros_0f7a4_79 rfl (by simp only [jk_tz1, jk_s, h23, h38, h52, h64, if_true, if_false]; try rfl) (rfl)
  · refine ex_iinc (y := 17) (ls' := [some (.int x), some (.int 17)]) dJ6_numberOfTrailingZeros_0f7a4_26 rfl rfl rfl (rfl) rfl ?_
    refine ex_iload_n dJ6_numberOfTrailingZeros_0f7a4_29 rfl rfl ?_
    refine ex_bipush (x := 16) dJ6_numberOfTrailingZeros_0f7a4_30 rfl rfl ?_
    refine ex_iushr (z := jk_u x 16) dJ6_numberOfTrailingZeros_0f7a4_32 rfl (rfl) ?_
    refine ex_istore_n (ls' := [some (.int (jk_u x 16)), some (.int 17)]) dJ6_numberOfTrailingZeros_0f7a4_33 rfl (Nat.le_of_ble_eq_true rfl) rfl rfl ?_
    refine ex_iload_n dJ6_numberOfTrailingZeros_0f7a4_34 rfl rfl ?_
    refine ex_sipush (x := 256) dJ6_numberOfTrailingZeros_0f7a4_35 rfl rfl ?_
    refine ex_icmp_le (q := 49) (q2 := 41) dJ6_numberOfTrailingZeros_0f7a4_38 rfl rfl (fun h38 => ?_) (fun h38 => ?_)
    · refine ex_iload_n dJ6_numberOfTrailingZeros_0f7a4_49 rfl rfl ?_
      refine ex_bipush (x := 16) dJ6_numberOfTrailingZeros_0f7a4_50 rfl rfl ?_
      refine ex_icmp_le (q := 62) (q2 := 55) dJ6_numberOfTrailingZeros_0f7a4_52 rfl rfl (fun h52 => ?_) (fun h52 => ?_)
      · refine ex_iload_n dJ6_numberOfTrailingZeros_0f7a4_62 rfl rfl ?_
        refine ex_iconst (x := 4) dJ6_numberOfTrailingZeros_0f7a4_63 rfl rfl ?_
        refine ex_icmp_le (q := 74) (q2 := 67) dJ6_numberOfTrailingZeros_0f7a4_64 rfl rfl (fun h64 => ?_) (fun h64 => ?_)
        · refine ex_iload_n dJ6_numberOfTrailingZeros_0f7a4_74 rfl rfl ?_
          refine ex_iload_n dJ6_numberOfTrailingZeros_0f7a4_75 rfl rfl ?_
          refine ex_iconst (x := 1) dJ6_numberOfTrailingZeros_0f7a4_76 rfl rfl ?_
          refine ex_iushr (z := jk_u (jk_u x 16) 1) dJ6_numberOfTrailingZeros_0f7a4_77 rfl (rfl) ?_
          refine ex_iadd (z := 17 + (jk_u (jk_u x 16) 1)) dJ6_numberOfTrailingZeros_0f7a4_78 rfl (rfl) ?_
          exact ex_iret dJ6_numberOfTrailingZeros_0f7a4_79 rfl (by simp only [jk_tz1, jk_s, h23, h38, h52, h64, if_true, if_false]; try rfl) (rfl)
        · refine ex_iinc (y := 19) (ls' := [some (.int (jk_u x 16)), some (.int 19)]) dJ6_numberOfTrailingZeros_0f7a4_67 rfl rfl rfl (rfl) rfl ?_
          refine ex_iload_n dJ6_numberOfTrailingZeros_0f7a4_70 rfl rfl ?_
          refine ex_iconst (x := 2) dJ6_numberOfTrailingZeros_0f7a4_71 rfl rfl ?_
          refine ex_iushr (z := jk_u (jk_u x 16) 2) dJ6_numberOfTrailingZeros_0f7a4_72 rfl (rfl) ?_
          refine ex_istore_n (ls' := [some (.int (jk_u (jk_u x 16) 2)), some (.int 19)]) dJ6_numberOfTrailingZeros_0f7a4_73 rfl (Nat.le_of_ble_eq_true rfl) rfl rfl ?_
          refine ex_iload_n dJ6_numberOfTrailingZeros_0f7a4_74 rfl rfl ?_
          refine ex_iload_n dJ6_numberOfTrailingZeros_0f7a4_75 rfl rfl ?_
          refine ex_iconst (x := 1) dJ6_numberOfTrailingZeros_0f7a4_76 rfl rfl ?_
          refine ex_iushr (z := jk_u (jk_u (jk_u x 16) 2) 1) dJ6_numberOfTrailingZeros_0f7a4_77 rfl (rfl) ?_
          refine ex_iadd (z := 19 + (jk_u (jk_u (jk_u x 16) 2) 1)) dJ6_numberOfTrailingZeros_0f7a4_78 rfl (rfl) ?_
          exact ex_iret dJ6_numberOfTrailingZeros_0f7a4_79 rfl (by simp only [jk_tz1, jk_s, h23, h38, h52, h64, if_true, if_false]; try rfl) (rfl)
      · refine ex_iinc (y := 21) (ls' := [some (.int (jk_u x 16)), some (.int 21)]) dJ6_numberOfTrailingZeros_0f7a4_55 rfl rfl rfl (rfl) rfl ?_
        refine ex_iload_n dJ6_numberOfTrailingZeros_0f7a4_58 rfl rfl ?_
        refine ex_iconst (x := 4) dJ6_numberOfTrailingZeros_0f7a4_59 rfl rfl ?_
        refine ex_iushr (z := jk_u (jk_u x 16) 4) dJ6_numberOfTrailingZeros_0f7a4_60 rfl (rfl) ?_
        refine ex_istore_n (ls' := [some (.int (jk_u (jk_u x 16) 4)), some (.int 21)]) dJ6_numberOfTrailingZeros_0f7a4_61 rfl (Nat.le_of_ble_eq_true rfl) rfl rfl ?_
        refine ex_iload_n dJ6_numberOfTrailingZeros_0f7a4_62 rfl rfl ?_
        refine ex_iconst (x := 4) dJ6_numberOfTrailingZeros_0f7a4_63 rfl rfl ?_
        refine ex_icmp_le (q := 74) (q2 := 67) dJ6_numberOfTrailingZeros_0f7a4_64 rfl rfl (fun h64 => ?_) (fun h64 => ?_)
        · refine ex_iload_n dJ6_numberOfTrailingZeros_0f7a4_74 rfl rfl ?_
          refine ex_iload_n dJ6_numberOfTrailingZeros_0f7a4_75 rfl rfl ?_
          refine ex_iconst (x := 1) dJ6_numberOfTrailingZeros_0f7a4_76 rfl rfl ?_
          refine ex_iushr (z := jk_u (jk_u (jk_u x 16) 4) 1) dJ6_numberOfTrailingZeros_0f7a4_77 rfl (rfl) ?_
          refine ex_iadd (z := 21 + (jk_u (jk_u (jk_u x 16) 4) 1)) dJ6_numberOfTrailingZeros_0f7a4_78 rfl (rfl) ?_
          exact ex_iret dJ6_numberOfTrailingZeros_0f7a4_79 rfl (by simp only [jk_tz1, jk_s, h23, h38, h52, h64, if_true, if_false]; try rfl) (rfl)
        · refine ex_iinc (y := 23) (ls' := [some (.int (jk_u (jk_u x 16) 4)), some (.int 23)]) dJ6_numberOfTrailingZeros_0f7a4_67 rfl rfl rfl (rfl) rfl ?_
          refine ex_iload_n dJ6_numberOfTrailingZeros_0f7a4_70 rfl rfl ?_
          refine ex_iconst (x := 2) dJ6_numberOfTrailingZeros_0f7a4_71 rfl rfl ?_
          refine ex_iushr (z := jk_u (jk_u (jk_u x 16) 4) 2) dJ6_numberOfTrailingZeros_0f7a4_72 rfl (rfl) ?_
          refine ex_istore_n (ls' := [some (.int (jk_u (jk_u (jk_u x 16) 4) 2)), some (.int 23)]) dJ6_numberOfTrailingZeros_0f7a4_73 rfl (Nat.le_of_ble_eq_true rfl) rfl rfl ?_
          refine ex_iload_n dJ6_numberOfTrailingZeros_0f7a4_74 rfl rfl ?_
          refine ex_iload_n dJ6_numberOfTrailingZeros_0f7a4_75 rfl rfl ?_
          refine ex_iconst (x := 1) dJ6_numberOfTrailingZeros_0f7a4_76 rfl rfl ?_
          refine ex_iushr (z := jk_u (jk_u (jk_u (jk_u x 16) 4) 2) 1) dJ6_numberOfTrailingZeros_0f7a4_77 rfl (rfl) ?_
          refine ex_iadd (z := 23 + (jk_u (jk_u (jk_u (jk_u x 16) 4) 2) 1)) dJ6_numberOfTrailingZeros_0f7a4_78 rfl (rfl) ?_
          exact ex_iret dJ6_numberOfTrailingZeros_0f7a4_79 rfl (by simp only [jk_tz1, jk_s, h23, h38, h52, h64, if_true, if_false]; try rfl) (rfl)
    · refine ex_iinc (y := 25) (ls' := [some (.int (jk_u x 16)), some (.int 25)]) dJ6_numberOfTrailingZeros_0f7a4_41 rfl rfl rfl (rfl) rfl ?_
      refine ex_iload_n dJ6_numberOfTrailingZeros_0f7a4_44 rfl rfl ?_
      refine ex_bipush (x := 8) dJ6_numberOfTrailingZeros_0f7a4_45 rfl rfl ?_
      refine ex_iushr (z := jk_u (jk_u x 16) 8) dJ6_numberOfTrailingZeros_0f7a4_47 rfl (rfl) ?_
      refine ex_istore_n (ls' := [some (.int (jk_u (jk_u x 16) 8)), some (.int 25)]) dJ6_numberOfTrailingZeros_0f7a4_48 rfl (Nat.le_of_ble_eq_true rfl) rfl rfl ?_
      refine ex_iload_n dJ6_numberOfTrailingZeros_0f7a4_49 rfl rfl ?_
      refine ex_bipush (x := 16) dJ6_numberOfTrailingZeros_0f7a4_50 rfl rfl ?_
      refine ex_icmp_le (q := 62) (q2 := 55) dJ6_numberOfTrailingZeros_0f7a4_52 rfl rfl (fun h52 => ?_) (fun h52 => ?_)
      · refine ex_iload_n dJ6_numberOfTrailingZeros_0f7a4_62 rfl rfl ?_
        refine ex_iconst (x := 4) dJ6_numberOfTrailingZeros_0f7a4_63 rfl rfl ?_
        refine ex_icmp_le (q := 74) (q2 := 67) dJ6_numberOfTrailingZeros_0f7a4_64 rfl rfl (fun h64 => ?_) (fun h64 => ?_)
        · refine ex_iload_n dJ6_numberOfTrailingZeros_0f7a4_74 rfl rfl ?_
          refine ex_iload_n dJ6_numberOfTrailingZeros_0f7a4_75 rfl rfl ?_
          refine ex_iconst (x := 1) dJ6_numberOfTrailingZeros_0f7a4_76 rfl rfl ?_
          refine ex_iushr (z := jk_u (jk_u (jk_u x 16) 8) 1) dJ6_numberOfTrailingZeros_0f7a4_77 rfl (rfl) ?_
          refine ex_iadd (z := 25 + (jk_u (jk_u (jk_u x 16) 8) 1)) dJ6_numberOfTrailingZeros_0f7a4_78 rfl (rfl) ?_
          exact ex_iret dJ6_numberOfTrailingZeros_0f7a4_79 rfl (by simp only [jk_tz1, jk_s, h23, h38, h52, h64, if_true, if_false]; try rfl) (rfl)
        · refine ex_iinc (y := 27) (ls' := [some (.int (jk_u (jk_u x 16) 8)), some (.int 27)]) dJ6_numberOfTrailingZeros_0f7a4_67 rfl rfl rfl (rfl) rfl ?_
          refine ex_iload_n dJ6_numberOfTrailingZeros_0f7a4_70 rfl rfl ?_
          refine ex_iconst (x := 2) dJ6_numberOfTrailingZeros_0f7a4_71 rfl rfl ?_
          refine ex_iushr (z := jk_u (jk_u (jk_u x 16) 8) 2) dJ6_numberOfTrailingZeros_0f7a4_72 rfl (rfl) ?_
          refine ex_istore_n (ls' := [some (.int (jk_u (jk_u (jk_u x 16) 8) 2)), some (.int 27)]) dJ6_numberOfTrailingZeros_0f7a4_73 rfl (Nat.le_of_ble_eq_true rfl) rfl rfl ?_
          refine ex_iload_n dJ6_numberOfTrailingZeros_0f7a4_74 rfl rfl ?_
          refine ex_iload_n dJ6_numberOfTrailingZeros_0f7a4_75 rfl rfl ?_
          refine ex_iconst (x := 1) dJ6_numberOfTrailingZeros_0f7a4_76 rfl rfl ?_
          refine ex_iushr (z := jk_u (jk_u (jk_u (jk_u x 16) 8) 2) 1) dJ6_numberOfTrailingZeros_0f7a4_77 rfl (rfl) ?_
          refine ex_iadd (z := 27 + (jk_u (jk_u (jk_u (jk_u x 16) 8) 2) 1)) dJ6_numberOfTrailingZeros_0f7a4_78 rfl (rfl) ?_
          exact ex_iret dJ6_numberOfTrailingZeros_0f7a4_79 rfl (by simp only [jk_tz1, jk_s, h23, h38, h52, h64, if_true, if_false]; try rfl) (rfl)
      · refine ex_iinc (y := 29) (ls' := [some (.int (jk_u (jk_u x 16) 8)), some (.int 29)]) dJ6_numberOfTrailingZeros_0f7a4_55 rfl rfl rfl (rfl) rfl ?_
        refine ex_iload_n dJ6_numberOfTrailingZeros_0f7a4_58 rfl rfl ?_
        refine ex_iconst (x := 4) dJ6_numberOfTrailingZeros_0f7a4_59 rfl rfl ?_
        refine ex_iushr (z := jk_u (jk_u (jk_u x 16) 8) 4) dJ6_numberOfTrailingZeros_0f7a4_60 rfl (rfl) ?_
        refine ex_istore_n (ls' := [some (.int (jk_u (jk_u (jk_u x 16) 8) 4)), some (.int 29)]) dJ6_numberOfTrailingZeros_0f7a4_61 rfl (Nat.le_of_ble_eq_true rfl) rfl rfl ?_
        refine ex_iload_n dJ6_numberOfTrailingZeros_0f7a4_62 rfl rfl ?_
        refine ex_iconst (x := 4) dJ6_numberOfTrailingZeros_0f7a4_63 rfl rfl ?_
        refine ex_icmp_le (q := 74) (q2 := 67) dJ6_numberOfTrailingZeros_0f7a4_64 rfl rfl (fun h64 => ?_) (fun h64 => ?_)
        · refine ex_iload_n dJ6_numberOfTrailingZeros_0f7a4_74 rfl rfl ?_
          refine ex_iload_n dJ6_numberOfTrailingZeros_0f7a4_75 rfl rfl ?_
          refine ex_iconst (x := 1) dJ6_numberOfTrailingZeros_0f7a4_76 rfl rfl ?_
          refine ex_iushr (z := jk_u (jk_u (jk_u (jk_u x 16) 8) 4) 1) dJ6_numberOfTrailingZeros_0f7a4_77 rfl (rfl) ?_
          refine ex_iadd (z := 29 + (jk_u (jk_u (jk_u (jk_u x 16) 8) 4) 1)) dJ6_numberOfTrailingZeros_0f7a4_78 rfl (rfl) ?_
          exact ex_iret dJ6_numberOfTrailingZeros_0f7a4_79 rfl (by simp only [jk_tz1, jk_s, h23, h38, h52, h64, if_true, if_false]; try rfl) (rfl)
        · refine ex_iinc (y := 31) (ls' := [some (.int (jk_u (jk_u (jk_u x 16) 8) 4)), some (.int 31)]) dJ6_numberOfTrailingZeros_0f7a4_67 rfl rfl rfl (rfl) rfl ?_
          refine ex_iload_n dJ6_numberOfTrailingZeros_0f7a4_70 rfl rfl ?_
          refine ex_iconst (x := 2) dJ6_numberOfTrailingZeros_0f7a4_71 rfl rfl ?_
          refine ex_iushr (z := jk_u (jk_u (jk_u (jk_u x 16) 8) 4) 2) dJ6_numberOfTrailingZeros_0f7a4_72 rfl (rfl) ?_
          refine ex_istore_n (ls' := [some (.int (jk_u (jk_u (jk_u (jk_u x 16) 8) 4) 2)), some (.int 31)]) dJ6_numberOfTrailingZeros_0f7a4_73 rfl (Nat.le_of_ble_eq_true rfl) rfl rfl ?_
          refine ex_iload_n dJ6_numberOfTrailingZeros_0f7a4_74 rfl rfl ?_
          refine ex_iload_n dJ6_numberOfTrailingZeros_0f7a4_75 rfl rfl ?_
          refine ex_iconst (x := 1) dJ6_numberOfTrailingZeros_0f7a4_76 rfl rfl ?_
          refine ex_iushr (z := jk_u (jk_u (jk_u (jk_u (jk_u x 16) 8) 4) 2) 1) dJ6_numberOfTrailingZeros_0f7a4_77 rfl (rfl) ?_
          refine ex_iadd (z := 31 + (jk_u (jk_u (jk_u (jk_u (jk_u x 16) 8) 4) 2) 1)) dJ6_numberOfTrailingZeros_0f7a4_78 rfl (rfl) ?_
          exact ex_iret dJ6_numberOfTrailingZeros_0f7a4_79 rfl (by simp only [jk_tz1, jk_s, h23, h38, h52, h64, if_true, if_false]; try rfl) (rfl)
theorem c_tz {lay : List qm_LE} (σ : qm_St) (x : Int32) : Ok lay 0 mJ6_numberOfTrailingZeros_0f7a4 [.int x] σ (some (.int (jk_tz x))) σ := by
  refine Ok.of (ls := [some (.int x), none]) (Nat.le_of_ble_eq_true rfl) rfl ?_
  refine ex_iload_n dJ6_numberOfTrailingZeros_0f7a4_0 rfl rfl ?_
  refine ex_iconst (x := (-1)) dJ6_numberOfTrailingZeros_0f7a4_1 rfl rfl ?_
  refine ex_ixor (z := x ^^^ ((-1))) dJ6_numberOfTrailingZeros_0f7a4_2 rfl (rfl) ?_
  refine ex_iload_n dJ6_numberOfTrailingZeros_0f7a4_3 rfl rfl ?_
  refine ex_iconst (x := 1) dJ6_numberOfTrailingZeros_0f7a4_4 rfl rfl ?_
  refine ex_isub (z := x - 1) dJ6_numberOfTrailingZeros_0f7a4_5 rfl (rfl) ?_
  refine ex_iand (z := (x ^^^ ((-1))) &&& (x - 1)) dJ6_numberOfTrailingZeros_0f7a4_6 rfl (rfl) ?_
  refine ex_istore_n (ls' := [some (.int ((x ^^^ ((-1))) &&& (x - 1))), none]) dJ6_numberOfTrailingZeros_0f7a4_7 rfl (Nat.le_of_ble_eq_true rfl) rfl rfl ?_
  refine ex_iload_n dJ6_numberOfTrailingZeros_0f7a4_8 rfl rfl ?_
  refine ex_if_gt (q := 17) (q2 := 12) dJ6_numberOfTrailingZeros_0f7a4_9 rfl rfl (fun h9 => ?_) (fun h9 => ?_)
  · exact (by rw [jk_tz, if_pos h9]; exact c_tz1 σ _)
  · refine ex_iload_n dJ6_numberOfTrailingZeros_0f7a4_12 rfl rfl ?_
    refine ex_bipush (x := 32) dJ6_numberOfTrailingZeros_0f7a4_13 rfl rfl ?_
    refine ex_iand (z := ((x ^^^ ((-1))) &&& (x - 1)) &&& 32) dJ6_numberOfTrailingZeros_0f7a4_15 rfl (rfl) ?_
    exact ex_iret dJ6_numberOfTrailingZeros_0f7a4_16 rfl (by rw [jk_tz, if_neg h9]) rfl

set_option maxHeartbeats 4000000 in
theorem c_lz1 {lay : List qm_LE} {d : Nat} (σ : qm_St) (x : Int32) : Ex lay d mJ6_numberOfLeadingZeros_0f7a4 15 [some (.int x), none] [] σ (some (.int (jk_lz1 x))) σ := by
  refine ex_bipush (x := 31) dJ6_numberOfLeadingZeros_0f7a4_15 rfl rfl ?_
  refine ex_istore_n (ls' := [some (.int x), some (.int 31)]) dJ6_numberOfLeadingZeros_0f7a4_17 rfl (Nat.le_of_ble_eq_true rfl) rfl rfl ?_
  refine ex_iload_n dJ6_numberOfLeadingZeros_0f7a4_18 rfl rfl ?_
  refine ex_ldc_w (x := 65536) dJ6_numberOfLeadingZeros_0f7a4_19 rfl qp_10_264 ?_
  refine ex_icmp_lt (q := 33) (q2 := 25) dJ6_numberOfLeadingZeros_0f7a4_22 rfl rfl (fun h22 => ?_) (fun h22 => ?_)
  · refine ex_iload_n dJ6_numberOfLeadingZeros_0f7a4_33 rfl rfl ?_
    refine ex_sipush (x := 256) dJ6_numberOfLeadingZeros_0f7a4_34 rfl rfl ?_
    refine ex_icmp_lt (q := 48) (q2 := 40) dJ6_numberOfLeadingZeros_0f7a4_37 rfl rfl (fun h37 => ?_) (fun h37 => ?_)
    · refine ex_iload_n dJ6_numberOfLeadingZeros_0f7a4_48 rfl rfl ?_
      refine ex_bipush (x := 16) dJ6_numberOfLeadingZeros_0f7a4_49 rfl rfl ?_
      refine ex_icmp_lt (q := 61) (q2 := 54) dJ6_numberOfLeadingZeros_0f7a4_51 rfl rfl (fun h51 => ?_) (fun h51 => ?_)
      · refine ex_iload_n dJ6_numberOfLeadingZeros_0f7a4_61 rfl rfl ?_
        refine ex_iconst (x := 4) dJ6_numberOfLeadingZeros_0f7a4_62 rfl rfl ?_
        refine ex_icmp_lt (q := 73) (q2 := 66) dJ6_numberOfLeadingZeros_0f7a4_63 rfl rfl (fun h63 => ?_) (fun h63 => ?_)
        · refine ex_iload_n dJ6_numberOfLeadingZeros_0f7a4_73 rfl rfl ?_
          refine ex_iload_n dJ6_numberOfLeadingZeros_0f7a4_74 rfl rfl ?_
          refine ex_iconst (x := 1) dJ6_numberOfLeadingZeros_0f7a4_75 rfl rfl ?_
          refine ex_iushr (z := jk_u x 1) dJ6_numberOfLeadingZeros_0f7a4_76 rfl (rfl) ?_
          refine ex_isub (z := 31 - (jk_u x 1)) dJ6_numberOfLeadingZeros_0f7a4_77 rfl (rfl) ?_
          exact ex_iret dJ6_numberOfLeadingZeros_0f7a4_78 rfl (by simp only [jk_lz1, jk_r, h22, h37, h51, h63, if_true, if_false]; try rfl) (rfl)
        · refine ex_iinc (y := 31 + (-2)) (ls' := [some (.int x), some (.int (31 + (-2)))]) dJ6_numberOfLeadingZeros_0f7a4_66 rfl rfl rfl (rfl) rfl ?_
          refine ex_iload_n dJ6_numberOfLeadingZeros_0f7a4_69 rfl rfl ?_
          refine ex_iconst (x := 2) dJ6_numberOfLeadingZeros_0f7a4_70 rfl rfl ?_
          refine ex_iushr (z := jk_u x 2) dJ6_numberOfLeadingZeros_0f7a4_71 rfl (rfl) ?_
          refine ex_istore_n (ls' := [some (.int (jk_u x 2)), some (.int (31 + (-2)))]) dJ6_numberOfLeadingZeros_0f7a4_72 rfl (Nat.le_of_ble_eq_true rfl) rfl rfl ?_
          refine ex_iload_n dJ6_numberOfLeadingZeros_0f7a4_73 rfl rfl ?_
          refine ex_iload_n dJ6_numberOfLeadingZeros_0f7a4_74 rfl rfl ?_
          refine ex_iconst (x := 1) dJ6_numberOfLeadingZeros_0f7a4_75 rfl rfl ?_
          refine ex_iushr (z := jk_u (jk_u x 2) 1) dJ6_numberOfLeadingZeros_0f7a4_76 rfl (rfl) ?_
          refine ex_isub (z := (31 + (-2)) - (jk_u (jk_u x 2) 1)) dJ6_numberOfLeadingZeros_0f7a4_77 rfl (rfl) ?_
          exact ex_iret dJ6_numberOfLeadingZeros_0f7a4_78 rfl (by simp only [jk_lz1, jk_r, h22, h37, h51, h63, if_true, if_false]; try rfl) (rfl)
      · refine ex_iinc (y := 31 + (-4)) (ls' := [some (.int x), some (.int (31 + (-4)))]) dJ6_numberOfLeadingZeros_0f7a4_54 rfl rfl rfl (rfl) rfl ?_
        refine ex_iload_n dJ6_numberOfLeadingZeros_0f7a4_57 rfl rfl ?_
        refine ex_iconst (x := 4) dJ6_numberOfLeadingZeros_0f7a4_58 rfl rfl ?_
        refine ex_iushr (z := jk_u x 4) dJ6_numberOfLeadingZeros_0f7a4_59 rfl (rfl) ?_
        refine ex_istore_n (ls' := [some (.int (jk_u x 4)), some (.int (31 + (-4)))]) dJ6_numberOfLeadingZeros_0f7a4_60 rfl (Nat.le_of_ble_eq_true rfl) rfl rfl ?_
        refine ex_iload_n dJ6_numberOfLeadingZeros_0f7a4_61 rfl rfl ?_
        refine ex_iconst (x := 4) dJ6_numberOfLeadingZeros_0f7a4_62 rfl rfl ?_
        refine ex_icmp_lt (q := 73) (q2 := 66) dJ6_numberOfLeadingZeros_0f7a4_63 rfl rfl (fun h63 => ?_) (fun h63 => ?_)
        · refine ex_iload_n dJ6_numberOfLeadingZeros_0f7a4_73 rfl rfl ?_
          refine ex_iload_n dJ6_numberOfLeadingZeros_0f7a4_74 rfl rfl ?_
          refine ex_iconst (x := 1) dJ6_numberOfLeadingZeros_0f7a4_75 rfl rfl ?_
          refine ex_iushr (z := jk_u (jk_u x 4) 1) dJ6_numberOfLeadingZeros_0f7a4_76 rfl (rfl) ?_
          refine ex_isub (z := (31 + (-4)) - (jk_u (jk_u x 4) 1)) dJ6_numberOfLeadingZeros_0f7a4_77 rfl (rfl) ?_
          exact ex_iret dJ6_numberOfLeadingZeros_0f7a4_78 rfl (by simp only [jk_lz1, jk_r, h22, h37, h51, h63, if_true, if_false]; try rfl) (rfl)
        · refine ex_iinc (y := (31 + (-4)) + (-2)) (ls' := [some (.int (jk_u x 4)), some (.int ((31 + (-4)) + (-2)))]) dJ6_numberOfLeadingZeros_0f7a4_66 rfl rfl rfl (rfl) rfl ?_
          refine ex_iload_n dJ6_numberOfLeadingZeros_0f7a4_69 rfl rfl ?_
          refine ex_iconst (x := 2) dJ6_numberOfLeadingZeros_0f7a4_70 rfl rfl ?_
          refine ex_iushr (z := jk_u (jk_u x 4) 2) dJ6_numberOfLeadingZeros_0f7a4_71 rfl (rfl) ?_
          refine ex_istore_n (ls' := [some (.int (jk_u (jk_u x 4) 2)), some (.int ((31 + (-4)) + (-2)))]) dJ6_numberOfLeadingZeros_0f7a4_72 rfl (Nat.le_of_ble_eq_true rfl) rfl rfl ?_
          refine ex_iload_n dJ6_numberOfLeadingZeros_0f7a4_73 rfl rfl ?_
          refine ex_iload_n dJ6_numberOfLeadingZeros_0f7a4_74 rfl rfl ?_
          refine ex_iconst (x := 1) dJ6_numberOfLeadingZeros_0f7a4_75 rfl rfl ?_
          refine ex_iushr (z := jk_u (jk_u (jk_u x 4) 2) 1) dJ6_numberOfLeadingZeros_0f7a4_76 rfl (rfl) ?_
          refine ex_isub (z := ((31 + (-4)) + (-2)) - (jk_u (jk_u (jk_u x 4) 2) 1)) dJ6_numberOfLeadingZeros_0f7a4_77 rfl (rfl) ?_
          exact ex_iret dJ6_numberOfLeadingZeros_0f7a4_78 rfl (by simp only [jk_lz1, jk_r, h22, h37, h51, h63, if_true, if_false]; try rfl) (rfl)
    · refine ex_iinc (y := 31 + (-8)) (ls' := [some (.int x), some (.int (31 + (-8)))]) dJ6_numberOfLeadingZeros_0f7a4_40 rfl rfl rfl (rfl) rfl ?_
      refine ex_iload_n dJ6_numberOfLeadingZeros_0f7a4_43 rfl rfl ?_
      refine ex_bipush (x := 8) dJ6_numberOfLeadingZeros_0f7a4_44 rfl rfl ?_
      refine ex_iushr (z := jk_u x 8) dJ6_numberOfLeadingZeros_0f7a4_46 rfl (rfl) ?_
      refine ex_istore_n (ls' := [some (.int (jk_u x 8)), some (.int (31 + (-8)))]) dJ6_numberOfLeadingZeros_0f7a4_47 rfl (Nat.le_of_ble_eq_true rfl) rfl rfl ?_
      refine ex_iload_n dJ6_numberOfLeadingZeros_0f7a4_48 rfl rfl ?_
      refine ex_bipush (x := 16) dJ6_numberOfLeadingZeros_0f7a4_49 rfl rfl ?_
      refine ex_icmp_lt (q := 61) (q2 := 54) dJ6_numberOfLeadingZeros_0f7a4_51 rfl rfl (fun h51 => ?_) (fun h51 => ?_)
      · refine ex_iload_n dJ6_numberOfLeadingZeros_0f7a4_61 rfl rfl ?_
        refine ex_iconst (x := 4) dJ6_numberOfLeadingZeros_0f7a4_62 rfl rfl ?_
        refine ex_icmp_lt (q := 73) (q2 := 66) dJ6_numberOfLeadingZeros_0f7a4_63 rfl rfl (fun h63 => ?_) (fun h63 => ?_)
        · refine ex_iload_n dJ6_numberOfLeadingZeros_0f7a4_73 rfl rfl ?_
          refine ex_iload_n dJ6_numberOfLeadingZeros_0f7a4_74 rfl rfl ?_
          refine ex_iconst (x := 1) dJ6_numberOfLeadingZeros_0f7a4_75 rfl rfl ?_
          refine ex_iushr (z := jk_u (jk_u x 8) 1) dJ6_numberOfLeadingZeros_0f7a4_76 rfl (rfl) ?_
          refine ex_isub (z := (31 + (-8)) - (jk_u (jk_u x 8) 1)) dJ6_numberOfLeadingZeros_0f7a4_77 rfl (rfl) ?_
          exact ex_iret dJ6_numberOfLeadingZeros_0f7a4_78 rfl (by simp only [jk_lz1, jk_r, h22, h37, h51, h63, if_true, if_false]; try rfl) (rfl)
        · refine ex_iinc (y := (31 + (-8)) + (-2)) (ls' := [some (.int (jk_u x 8)), some (.int ((31 + (-8)) + (-2)))]) dJ6_numberOfLeadingZeros_0f7a4_66 rfl rfl rfl (rfl) rfl ?_
          refine ex_iload_n dJ6_numberOfLeadingZeros_0f7a4_69 rfl rfl ?_
          refine ex_iconst (x := 2) dJ6_numberOfLeadingZeros_0f7a4_70 rfl rfl ?_
          refine ex_iushr (z := jk_u (jk_u x 8) 2) dJ6_numberOfLeadingZeros_0f7a4_71 rfl (rfl) ?_
          refine ex_istore_n (ls' := [some (.int (jk_u (jk_u x 8) 2)), some (.int ((31 + (-8)) + (-2)))]) dJ6_numberOfLeadingZeros_0f7a4_72 rfl (Nat.le_of_ble_eq_true rfl) rfl rfl ?_
          refine ex_iload_n dJ6_numberOfLeadingZeros_0f7a4_73 rfl rfl ?_
          refine ex_iload_n dJ6_numberOfLeadingZeros_0f7a4_74 rfl rfl ?_
          refine ex_iconst (x := 1) dJ6_numberOfLeadingZeros_0f7a4_75 rfl rfl ?_
          refine ex_iushr (z := jk_u (jk_u (jk_u x 8) 2) 1) dJ6_numberOfLeadingZeros_0f7a4_76 rfl (rfl) ?_
          refine ex_isub (z := ((31 + (-8)) + (-2)) - (jk_u (jk_u (jk_u x 8) 2) 1)) dJ6_numberOfLeadingZeros_0f7a4_77 rfl (rfl) ?_
          exact ex_iret dJ6_numberOfLeadingZeros_0f7a4_78 rfl (by simp only [jk_lz1, jk_r, h22, h37, h51, h63, if_true, if_false]; try rfl) (rfl)
      · refine ex_iinc (y := (31 + (-8)) + (-4)) (ls' := [some (.int (jk_u x 8)), some (.int ((31 + (-8)) + (-4)))]) dJ6_numberOfLeadingZeros_0f7a4_54 rfl rfl rfl (rfl) rfl ?_
        refine ex_iload_n dJ6_numberOfLeadingZeros_0f7a4_57 rfl rfl ?_
        refine ex_iconst (x := 4) dJ6_numberOfLeadingZeros_0f7a4_58 rfl rfl ?_
        refine ex_iushr (z := jk_u (jk_u x 8) 4) dJ6_numberOfLeadingZeros_0f7a4_59 rfl (rfl) ?_
        refine ex_istore_n (ls' := [some (.int (jk_u (jk_u x 8) 4)), some (.int ((31 + (-8)) + (-4)))]) dJ6_numberOfLeadingZeros_0f7a4_60 rfl (Nat.le_of_ble_eq_true rfl) rfl rfl ?_
        refine ex_iload_n dJ6_numberOfLeadingZeros_0f7a4_61 rfl rfl ?_
        refine ex_iconst (x := 4) dJ6_numberOfLeadingZeros_0f7a4_62 rfl rfl ?_
        refine ex_icmp_lt (q := 73) (q2 := 66) dJ6_numberOfLeadingZeros_0f7a4_63 rfl rfl (fun h63 => ?_) (fun h63 => ?_)
        · refine ex_iload_n dJ6_numberOfLeadingZeros_0f7a4_73 rfl rfl ?_
          refine ex_iload_n dJ6_numberOfLeadingZeros_0f7a4_74 rfl rfl ?_
          refine ex_iconst (x := 1) dJ6_numberOfLeadingZeros_0f7a4_75 rfl rfl ?_
          refine ex_iushr (z := jk_u (jk_u (jk_u x 8) 4) 1) dJ6_numberOfLeadingZeros_0f7a4_76 rfl (rfl) ?_
          refine ex_isub (z := ((31 + (-8)) + (-4)) - (jk_u (jk_u (jk_u x 8) 4) 1)) dJ6_numberOfLeadingZeros_0f7a4_77 rfl (rfl) ?_
          exact ex_iret dJ6_numberOfLeadingZeros_0f7a4_78 rfl (by simp only [jk_lz1, jk_r, h22, h37, h51, h63, if_true, if_false]; try rfl) (rfl)
        · refine ex_iinc (y := ((31 + (-8)) + (-4)) + (-2)) (ls' := [some (.int (jk_u (jk_u x 8) 4)), some (.int (((31 + (-8)) + (-4)) + (-2)))]) dJ6_numberOfLeadingZeros_0f7a4_66 rfl rfl rfl (rfl) rfl ?_
          refine ex_iload_n dJ6_numberOfLeadingZeros_0f7a4_69 rfl rfl ?_
          refine ex_iconst (x := 2) dJ6_numberOfLeadingZeros_0f7a4_70 rfl rfl ?_
          refine ex_iushr (z := jk_u (jk_u (jk_u x 8) 4) 2) dJ6_numberOfLeadingZeros_0f7a4_71 rfl (rfl) ?_
          refine ex_istore_n (ls' := [some (.int (jk_u (jk_u (jk_u x 8) 4) 2)), some (.int (((31 + (-8)) + (-4)) + (-2)))]) dJ6_numberOfLeadingZeros_0f7a4_72 rfl (Nat.le_of_ble_eq_true rfl) rfl rfl ?_
          refine ex_iload_n dJ6_numberOfLeadingZeros_0f7a4_73 rfl rfl ?_
          refine ex_iload_n dJ6_numberOfLeadingZeros_0f7a4_74 rfl rfl ?_
          refine ex_iconst (x := 1) dJ6_numberOfLeadingZeros_0f7a4_75 rfl rfl ?_
          refine ex_iushr (z := jk_u (jk_u (jk_u (jk_u x 8) 4) 2) 1) dJ6_numberOfLeadingZeros_0f7a4_76 rfl (rfl) ?_
          refine ex_isub (z := (((31 + (-8)) + (-4)) + (-2)) - (jk_u (jk_u (jk_u (jk_u x 8) 4) 2) 1)) dJ6_numberOfLeadingZeros_0f7a4_77 rfl (rfl) ?_
          exact ex_iret dJ6_numberOfLeadingZeros_0f7a4_78 rfl (by simp only [jk_lz1, jk_r, h22, h37, h51, h63, if_true, if_false]; try rfl) (rfl)
  · refine ex_iinc (y := 31 + (-16)) (ls' := [some (.int x), some (.int (31 + (-16)))]) dJ6_numberOfLeadingZeros_0f7a4_25 rfl rfl rfl (rfl) rfl ?_
    refine ex_iload_n dJ6_numberOfLeadingZeros_0f7a4_28 rfl rfl ?_
    refine ex_bipush (x := 16) dJ6_numberOfLeadingZeros_0f7a4_29 rfl rfl ?_
    refine ex_iushr (z := jk_u x 16) dJ6_numberOfLeadingZeros_0f7a4_31 rfl (rfl) ?_
    refine ex_istore_n (ls' := [some (.int (jk_u x 16)), some (.int (31 + (-16)))]) dJ6_numberOfLeadingZeros_0f7a4_32 rfl (Nat.le_of_ble_eq_true rfl) rfl rfl ?_
    refine ex_iload_n dJ6_numberOfLeadingZeros_0f7a4_33 rfl rfl ?_
    refine ex_sipush (x := 256) dJ6_numberOfLeadingZeros_0f7a4_34 rfl rfl ?_
    refine ex_icmp_lt (q := 48) (q2 := 40) dJ6_numberOfLeadingZeros_0f7a4_37 rfl rfl (fun h37 => ?_) (fun h37 => ?_)
    · refine ex_iload_n dJ6_numberOfLeadingZeros_0f7a4_48 rfl rfl ?_
      refine ex_bipush (x := 16) dJ6_numberOfLeadingZeros_0f7a4_49 rfl rfl ?_
      refine ex_icmp_lt (q := 61) (q2 := 54) dJ6_numberOfLeadingZeros_0f7a4_51 rfl rfl (fun h51 => ?_) (fun h51 => ?_)
      · refine ex_iload_n dJ6_numberOfLeadingZeros_0f7a4_61 rfl rfl ?_
        refine ex_iconst (x := 4) dJ6_numberOfLeadingZeros_0f7a4_62 rfl rfl ?_
        refine ex_icmp_lt (q := 73) (q2 := 66) dJ6_numberOfLeadingZeros_0f7a4_63 rfl rfl (fun h63 => ?_) (fun h63 => ?_)
        · refine ex_iload_n dJ6_numberOfLeadingZeros_0f7a4_73 rfl rfl ?_
          refine ex_iload_n dJ6_numberOfLeadingZeros_0f7a4_74 rfl rfl ?_
          refine ex_iconst (x := 1) dJ6_numberOfLeadingZeros_0f7a4_75 rfl rfl ?_
          refine ex_iushr (z := jk_u (jk_u x 16) 1) dJ6_numberOfLeadingZeros_0f7a4_76 rfl (rfl) ?_
          refine ex_isub (z := (31 + (-16)) - (jk_u (jk_u x 16) 1)) dJ6_numberOfLeadingZeros_0f7a4_77 rfl (rfl) ?_
          exact ex_iret dJ6_numberOfLeadingZeros_0f7a4_78 rfl (by simp only [jk_lz1, jk_r, h22, h37, h51, h63, if_true, if_false]; try rfl) (rfl)
        · refine ex_iinc (y := (31 + (-16)) + (-2)) (ls' := [some (.int (jk_u x 16)), some (.int ((31 + (-16)) + (-2)))]) dJ6_numberOfLeadingZeros_0f7a4_66 rfl rfl rfl (rfl) rfl ?_
          refine ex_iload_n dJ6_numberOfLeadingZeros_0f7a4_69 rfl rfl ?_
          refine ex_iconst (x := 2) dJ6_numberOfLeadingZeros_0f7a4_70 rfl rfl ?_
          refine ex_iushr (z := jk_u (jk_u x 16) 2) dJ6_numberOfLeadingZeros_0f7a4_71 rfl (rfl) ?_
          refine ex_istore_n (ls' := [some (.int (jk_u (jk_u x 16) 2)), some (.int ((31 + (-16)) + (-2)))]) dJ6_numberOfLeadingZeros_0f7a4_72 rfl (Nat.le_of_ble_eq_true rfl) rfl rfl ?_
          refine ex_iload_n dJ6_numberOfLeadingZeros_0f7a4_73 rfl rfl ?_
          refine ex_iload_n dJ6_numberOfLeadingZeros_0f7a4_74 rfl rfl ?_
          refine ex_iconst (x := 1) dJ6_numberOfLeadingZeros_0f7a4_75 rfl rfl ?_
          refine ex_iushr (z := jk_u (jk_u (jk_u x 16) 2) 1) dJ6_numberOfLeadingZeros_0f7a4_76 rfl (rfl) ?_
          refine ex_isub (z := ((31 + (-16)) + (-2)) - (jk_u (jk_u (jk_u x 16) 2) 1)) dJ6_numberOfLeadingZeros_0f7a4_77 rfl (rfl) ?_
          exact ex_iret dJ6_numberOfLeadingZeros_0f7a4_78 rfl (by simp only [jk_lz1, jk_r, h22, h37, h51, h63, if_true, if_false]; try rfl) (rfl)
      · refine ex_iinc (y := (31 + (-16)) + (-4)) (ls' := [some (.int (jk_u x 16)), some (.int ((31 + (-16)) + (-4)))]) dJ6_numberOfLeadingZeros_0f7a4_54 rfl rfl rfl (rfl) rfl ?_
        refine ex_iload_n dJ6_numberOfLeadingZeros_0f7a4_57 rfl rfl ?_
        refine ex_iconst (x := 4) dJ6_numberOfLeadingZeros_0f7a4_58 rfl rfl ?_
        refine ex_iushr (z := jk_u (jk_u x 16) 4) dJ6_numberOfLeadingZeros_0f7a4_59 rfl (rfl) ?_
        refine ex_istore_n (ls' := [some (.int (jk_u (jk_u x 16) 4)), some (.int ((31 + (-16)) + (-4)))]) dJ6_numberOfLeadingZeros_0f7a4_60 rfl (Nat.le_of_ble_eq_true rfl) rfl rfl ?_
        refine ex_iload_n dJ6_numberOfLeadingZeros_0f7a4_61 rfl rfl ?_
        refine ex_iconst (x := 4) dJ6_numberOfLeadingZeros_0f7a4_62 rfl rfl ?_
        refine ex_icmp_lt (q := 73) (q2 := 66) dJ6_numberOfLeadingZeros_0f7a4_63 rfl rfl (fun h63 => ?_) (fun h63 => ?_)
        · refine ex_iload_n dJ6_numberOfLeadingZeros_0f7a4_73 rfl rfl ?_
          refine ex_iload_n dJ6_numberOfLeadingZeros_0f7a4_74 rfl rfl ?_
          refine ex_iconst (x := 1) dJ6_numberOfLeadingZeros_0f7a4_75 rfl rfl ?_
          refine ex_iushr (z := jk_u (jk_u (jk_u x 16) 4) 1) dJ6_numberOfLeadingZeros_0f7a4_76 rfl (rfl) ?_
          refine ex_isub (z := ((31 + (-16)) + (-4)) - (jk_u (jk_u (jk_u x 16) 4) 1)) dJ6_numberOfLeadingZeros_0f7a4_77 rfl (rfl) ?_
          exact ex_iret dJ6_numberOfLeadingZeros_0f7a4_78 rfl (by simp only [jk_lz1, jk_r, h22, h37, h51, h63, if_true, if_false]; try rfl) (rfl)
        · refine ex_iinc (y := ((31 + (-16)) + (-4)) + (-2)) (ls' := [some (.int (jk_u (jk_u x 16) 4)), some (.int (((31 + (-16)) + (-4)) + (-2)))]) dJ6_numberOfLeadingZeros_0f7a4_66 rfl rfl rfl (rfl) rfl ?_
          refine ex_iload_n dJ6_numberOfLeadingZeros_0f7a4_69 rfl rfl ?_
          refine ex_iconst (x := 2) dJ6_numberOfLeadingZeros_0f7a4_70 rfl rfl ?_
          refine ex_iushr (z := jk_u (jk_u (jk_u x 16) 4) 2) dJ6_numberOfLeadingZeros_0f7a4_71 rfl (rfl) ?_
          refine ex_istore_n (ls' := [some (.int (jk_u (jk_u (jk_u x 16) 4) 2)), some (.int (((31 + (-16)) + (-4)) + (-2)))]) dJ6_numberOfLeadingZeros_0f7a4_72 rfl (Nat.le_of_ble_eq_true rfl) rfl rfl ?_
          refine ex_iload_n dJ6_numberOfLeadingZeros_0f7a4_73 rfl rfl ?_
          refine ex_iload_n dJ6_numberOfLeadingZeros_0f7a4_74 rfl rfl ?_
          refine ex_iconst (x := 1) dJ6_numberOfLeadingZeros_0f7a4_75 rfl rfl ?_
          refine ex_iushr (z := jk_u (jk_u (jk_u (jk_u x 16) 4) 2) 1) dJ6_numberOfLeadingZeros_0f7a4_76 rfl (rfl) ?_
          refine ex_isub (z := (((31 + (-16)) + (-4)) + (-2)) - (jk_u (jk_u (jk_u (jk_u x 16) 4) 2) 1)) dJ6_numberOfLeadingZeros_0f7a4_77 rfl (rfl) ?_
          exact ex_iret dJ6_numberOfLeadingZeros_0f7a4_78 rfl (by simp only [jk_lz1, jk_r, h22, h37, h51, h63, if_true, if_false]; try rfl) (rfl)
    · refine ex_iinc (y := (31 + (-16)) + (-8)) (ls' := [some (.int (jk_u x 16)), some (.int ((31 + (-16)) + (-8)))]) dJ6_numberOfLeadingZeros_0f7a4_40 rfl rfl rfl (rfl) rfl ?_
      refine ex_iload_n dJ6_numberOfLeadingZeros_0f7a4_43 rfl rfl ?_
      refine ex_bipush (x := 8) dJ6_numberOfLeadingZeros_0f7a4_44 rfl rfl ?_
      refine ex_iushr (z := jk_u (jk_u x 16) 8) dJ6_numberOfLeadingZeros_0f7a4_46 rfl (rfl) ?_
      refine ex_istore_n (ls' := [some (.int (jk_u (jk_u x 16) 8)), some (.int ((31 + (-16)) + (-8)))]) dJ6_numberOfLeadingZeros_0f7a4_47 rfl (Nat.le_of_ble_eq_true rfl) rfl rfl ?_
      refine ex_iload_n dJ6_numberOfLeadingZeros_0f7a4_48 rfl rfl ?_
      refine ex_bipush (x := 16) dJ6_numberOfLeadingZeros_0f7a4_49 rfl rfl ?_
      refine ex_icmp_lt (q := 61) (q2 := 54) dJ6_numberOfLeadingZeros_0f7a4_51 rfl rfl (fun h51 => ?_) (fun h51 => ?_)
      · refine ex_iload_n dJ6_numberOfLeadingZeros_0f7a4_61 rfl rfl ?_
        refine ex_iconst (x := 4) dJ6_numberOfLeadingZeros_0f7a4_62 rfl rfl ?_
        refine ex_icmp_lt (q := 73) (q2 := 66) dJ6_numberOfLeadingZeros_0f7a4_63 rfl rfl (fun h63 => ?_) (fun h63 => ?_)
        · refine ex_iload_n dJ6_numberOfLeadingZeros_0f7a4_73 rfl rfl ?_
          refine ex_iload_n dJ6_numberOfLeadingZeros_0f7a4_74 rfl rfl ?_
          refine ex_iconst (x := 1) dJ6_numberOfLeadingZeros_0f7a4_75 rfl rfl ?_
          refine ex_iushr (z := jk_u (jk_u (jk_u x 16) 8) 1) dJ6_numberOfLeadingZeros_0f7a4_76 rfl (rfl) ?_
          refine ex_isub (z := ((31 + (-16)) + (-8)) - (jk_u (jk_u (jk_u x 16) 8) 1)) dJ6_numberOfLeadingZeros_0f7a4_77 rfl (rfl) ?_
          exact ex_iret dJ6_numberOfLeadingZeros_0f7a4_78 rfl (by simp only [jk_lz1, jk_r, h22, h37, h51, h63, if_true, if_false]; try rfl) (rfl)
        · refine ex_iinc (y := ((31 + (-16)) + (-8)) + (-2)) (ls' := [some (.int (jk_u (jk_u x 16) 8)), some (.int (((31 + (-16)) + (-8)) + (-2)))]) dJ6_numberOfLeadingZeros_0f7a4_66 rfl rfl rfl (rfl) rfl ?_
          refine ex_iload_n dJ6_numberOfLeadingZeros_0f7a4_69 rfl rfl ?_
          refine ex_iconst (x := 2) dJ6_numberOfLeadingZeros_0f7a4_70 rfl rfl ?_
          refine ex_iushr (z := jk_u (jk_u (jk_u x 16) 8) 2) dJ6_numberOfLeadingZeros_0f7a4_71 rfl (rfl) ?_
          refine ex_istore_n (ls' := [some (.int (jk_u (jk_u (jk_u x 16) 8) 2)), some (.int (((31 + (-16)) + (-8)) + (-2)))]) dJ6_numberOfLeadingZeros_0f7a4_72 rfl (Nat.le_of_ble_eq_true rfl) rfl rfl ?_
          refine ex_iload_n dJ6_numberOfLeadingZeros_0f7a4_73 rfl rfl ?_
          refine ex_iload_n dJ6_numberOfLeadingZeros_0f7a4_74 rfl rfl ?_
          refine ex_iconst (x := 1) dJ6_numberOfLeadingZeros_0f7a4_75 rfl rfl ?_
          refine ex_iushr (z := jk_u (jk_u (jk_u (jk_u x 16) 8) 2) 1) dJ6_numberOfLeadingZeros_0f7a4_76 rfl (rfl) ?_
          refine ex_isub (z := (((31 + (-16)) + (-8)) + (-2)) - (jk_u (jk_u (jk_u (jk_u x 16) 8) 2) 1)) dJ6_numberOfLeadingZeros_0f7a4_77 rfl (rfl) ?_
          exact ex_iret dJ6_numberOfLeadingZeros_0f7a4_78 rfl (by simp only [jk_lz1, jk_r, h22, h37, h51, h63, if_true, if_false]; try rfl) (rfl)
      · refine ex_iinc (y := ((31 + (-16)) + (-8)) + (-4)) (ls' := [some (.int (jk_u (jk_u x 16) 8)), some (.int (((31 + (-16)) + (-8)) + (-4)))]) dJ6_numberOfLeadingZeros_0f7a4_54 rfl rfl rfl (rfl) rfl ?_
        refine ex_iload_n dJ6_numberOfLeadingZeros_0f7a4_57 rfl rfl ?_
        refine ex_iconst (x := 4) dJ6_numberOfLeadingZeros_0f7a4_58 rfl rfl ?_
        refine ex_iushr (z := jk_u (jk_u (jk_u x 16) 8) 4) dJ6_numberOfLeadingZeros_0f7a4_59 rfl (rfl) ?_
        refine ex_istore_n (ls' := [some (.int (jk_u (jk_u (jk_u x 16) 8) 4)), some (.int (((31 + (-16)) + (-8)) + (-4)))]) dJ6_numberOfLeadingZeros_0f7a4_60 rfl (Nat.le_of_ble_eq_true rfl) rfl rfl ?_
        refine ex_iload_n dJ6_numberOfLeadingZeros_0f7a4_61 rfl rfl ?_
        refine ex_iconst (x := 4) dJ6_numberOfLeadingZeros_0f7a4_62 rfl rfl ?_
        refine ex_icmp_lt (q := 73) (q2 := 66) dJ6_numberOfLeadingZeros_0f7a4_63 rfl rfl (fun h63 => ?_) (fun h63 => ?_)
        · refine ex_iload_n dJ6_numberOfLeadingZeros_0f7a4_73 rfl rfl ?_
          refine ex_iload_n dJ6_numberOfLeadingZeros_0f7a4_74 rfl rfl ?_
          refine ex_iconst (x := 1) dJ6_numberOfLeadingZeros_0f7a4_75 rfl rfl ?_
          refine ex_iushr (z := jk_u (jk_u (jk_u (jk_u x 16) 8) 4) 1) dJ6_numberOfLeadingZeros_0f7a4_76 rfl (rfl) ?_
          refine ex_isub (z := (((31 + (-16)) + (-8)) + (-4)) - (jk_u (jk_u (jk_u (jk_u x 16) 8) 4) 1)) dJ6_numberOfLeadingZeros_0f7a4_77 rfl (rfl) ?_
          exact ex_iret dJ6_numberOfLeadingZeros_0f7a4_78 rfl (by simp only [jk_lz1, jk_r, h22, h37, h51, h63, if_true, if_false]; try rfl) (rfl)
        · refine ex_iinc (y := (((31 + (-16)) + (-8)) + (-4)) + (-2)) (ls' := [some (.int (jk_u (jk_u (jk_u x 16) 8) 4)), some (.int ((((31 + (-16)) + (-8)) + (-4)) + (-2)))]) dJ6_numberOfLeadingZeros_0f7a4_66 rfl rfl rfl (rfl) rfl ?_
          refine ex_iload_n dJ6_numberOfLeadingZeros_0f7a4_69 rfl rfl ?_
          refine ex_iconst (x := 2) dJ6_numberOfLeadingZeros_0f7a4_70 rfl rfl ?_
          refine ex_iushr (z := jk_u (jk_u (jk_u (jk_u x 16) 8) 4) 2) dJ6_numberOfLeadingZeros_0f7a4_71 rfl (rfl) ?_
          refine ex_istore_n (ls' := [some (.int (jk_u (jk_u (jk_u (jk_u x 16) 8) 4) 2)), some (.int ((((31 + (-16)) + (-8)) + (-4)) + (-2)))]) dJ6_numberOfLeadingZeros_0f7a4_72 rfl (Nat.le_of_ble_eq_true rfl) rfl rfl ?_
          refine ex_iload_n dJ6_numberOfLeadingZeros_0f7a4_73 rfl rfl ?_
          refine ex_iload_n dJ6_numberOfLeadingZeros_0f7a4_74 rfl rfl ?_
          refine ex_iconst (x := 1) dJ6_numberOfLeadingZeros_0f7a4_75 rfl rfl ?_
          refine ex_iushr (z := jk_u (jk_u (jk_u (jk_u (jk_u x 16) 8) 4) 2) 1) dJ6_numberOfLeadingZeros_0f7a4_76 rfl (rfl) ?_
          refine ex_isub (z := ((((31 + (-16)) + (-8)) + (-4)) + (-2)) - (jk_u (jk_u (jk_u (jk_u (jk_u x 16) 8) 4) 2) 1)) dJ6_numberOfLeadingZeros_0f7a4_77 rfl (rfl) ?_
          exact ex_iret dJ6_numberOfLeadingZeros_0f7a4_78 rfl (by simp only [jk_lz1, jk_r, h22, h37, h51, h63, if_true, if_false]; try rfl) (rfl)
theorem c_lz {lay : List qm_LE} (σ : qm_St) (x : Int32) : Ok lay 0 mJ6_numberOfLeadingZeros_0f7a4 [.int x] σ (some (.int (jk_lz x))) σ := by
  refine Ok.of (ls := [some (.int x), none]) (Nat.le_of_ble_eq_true rfl) rfl ?_
  refine ex_iload_n dJ6_numberOfLeadingZeros_0f7a4_0 rfl rfl ?_
  refine ex_if_gt (q := 15) (q2 := 4) dJ6_numberOfLeadingZeros_0f7a4_1 rfl rfl (fun h1 => ?_) (fun h1 => ?_)
  · exact (by rw [jk_lz, if_pos h1]; exact c_lz1 σ _)
  · refine ex_iload_n dJ6_numberOfLeadingZeros_0f7a4_4 rfl rfl ?_
    refine ex_if_ne (q := 13) (q2 := 8) dJ6_numberOfLeadingZeros_0f7a4_5 rfl rfl (fun h5 => ?_) (fun h5 => ?_)
    · refine ex_iconst (x := 0) dJ6_numberOfLeadingZeros_0f7a4_13 rfl rfl ?_
      exact ex_iret dJ6_numberOfLeadingZeros_0f7a4_14 rfl (by first | rw [jk_lz, if_neg h1, if_pos (by simpa using h5)] | rw [jk_lz, if_neg h1, if_neg h5]) rfl
    · refine ex_bipush (x := 32) dJ6_numberOfLeadingZeros_0f7a4_8 rfl rfl ?_
      refine ex_goto (q := 14) dJ6_numberOfLeadingZeros_0f7a4_10 rfl ?_
      exact ex_iret dJ6_numberOfLeadingZeros_0f7a4_14 rfl (by first | rw [jk_lz, if_neg h1, if_pos (by simpa using h5)] | rw [jk_lz, if_neg h1, if_neg h5]) rfl

/-- how many bits -/
def tn_pc (n : Nat) : Nat := (List.range 12).foldl (fun s k => s + n / 2 ^ k % 2) 0
/-- the first place without a bit, 11 at most -/
def tn_lo (n : Nat) : Nat := ((List.range 11).find? (fun k => n / 2 ^ k % 2 = 0)).getD 11
/-- one above the last place with a bit, 11 at most -/
def tn_hi (n : Nat) : Nat := min 11 (((List.range 12).reverse.find? (fun k => n / 2 ^ k % 2 = 1)).elim 0 (· + 1))
set_option maxRecDepth 100000 in
theorem jk_bc_nI : ∀ n, n < 4096 → jk_bc (nI n) = nI (tn_pc n) := by decide +kernel
set_option maxRecDepth 100000 in
theorem jk_lo_nI : ∀ n, n < 4096 → (if jk_tz (nI n ^^^ (-1)) < 11 then jk_tz (nI n ^^^ (-1)) else 11) = nI (tn_lo n) := by decide +kernel
set_option maxRecDepth 100000 in
theorem jk_hi_nI : ∀ n, n < 4096 → (if 32 - jk_lz (nI n) < 11 then 32 - jk_lz (nI n) else 11) = nI (tn_hi n) := by decide +kernel
set_option maxRecDepth 100000 in
theorem tn_lo_le : ∀ n, n < 4096 → tn_lo n ≤ 11 := by decide +kernel
theorem tn_hi_le (n : Nat) : tn_hi n ≤ 11 := Nat.min_le_left _ _
set_option maxRecDepth 100000 in
theorem tn_pc_le : ∀ n, n < 4096 → tn_pc n ≤ 12 := by decide +kernel

