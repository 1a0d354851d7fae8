/-! the reference of the whole statement: its functions alone; here it is a picture in the mind, no object -/
def f_X10_thrown (N : Nat) (M : gq_M) : Option (Int32 × gq_M) :=
  some ((M 0 54), M)
def f_X10_fails_14 (N : Nat) (s0 : Int32) (M : gq_M) : Option (Int32 × gq_M) :=
  gq_g (gq_bb s0) (some (s0, M))
def f_X10_fails (N : Nat) (a1 : Int32) (M : gq_M) : Option (Int32 × gq_M) :=
  gq_l (gq_up M 0 54 a1) fun M1 => if a1 ≤ 0 then (f_X10_fails_14 N  0 M1) else (f_X10_fails_14 N  1 M1)
def f_X10_isIn_15 (N : Nat) (s0 : Int32) (M : gq_M) : Option (Int32 × gq_M) :=
  gq_g (gq_bb s0) (some (s0, M))
def f_X10_isIn_14 (N : Nat) (M : gq_M) : Option (Int32 × gq_M) :=
  f_X10_isIn_15 N  0 M
def f_X10_isIn (N : Nat) (a0 : Int32) (a1 : Int32) (a2 : Int32) (M : gq_M) : Option (Int32 × gq_M) :=
  if a0 < a1 then (f_X10_isIn_14 N   M) else (if a2 < a0 then (f_X10_isIn_14 N   M) else (f_X10_isIn_15 N  1 M))
def f_X10_isEight (N : Nat) (a0 : Int32) (M : gq_M) : Option (Int32 × gq_M) :=
  gq_b (f_X10_isIn N a0 0 7 M) fun v1 M2 => gq_g (gq_bb v1) (some (v1, M2))
def f_X10_isKind (N : Nat) (a0 : Int32) (M : gq_M) : Option (Int32 × gq_M) :=
  gq_b (f_X10_isIn N a0 0 3 M) fun v1 M2 => gq_g (gq_bb v1) (some (v1, M2))
def f_X10_isHall (N : Nat) (a0 : Int32) (M : gq_M) : Option (Int32 × gq_M) :=
  gq_b (f_X10_isIn N a0 0 2 M) fun v1 M2 => gq_g (gq_bb v1) (some (v1, M2))
def f_X10_isBox (N : Nat) (a1 : Int32) (M : gq_M) : Option (Int32 × gq_M) :=
  gq_b (f_X10_isIn N a1 0 ((M 0 16) - 1) M) fun v1 M2 => gq_g (gq_bb v1) (some (v1, M2))
def f_X10_quota_46 (N : Nat) (x1 : Int32) (x2 : Int32) (x3 : Int32) (s1 : Int32) (M : gq_M) : Option (Int32 × gq_M) :=
  gq_b (f_X10_fails N s1 M) fun v14 M15 => if v14 = 0 then (gq_g (gq_in ((4 * x1) + x2) 32) (gq_l (M15 1 (((4 * x1) + x2) : Int32).toNatClampNeg) fun v19 => gq_g (gq_in ((4 * x1) + x2) 32) (gq_l (gq_up M15 1 (((4 * x1) + x2) : Int32).toNatClampNeg x3) fun M21 => some (v19, M21)))) else (some (0, M15))
def f_X10_quota_19 (N : Nat) (x1 : Int32) (x2 : Int32) (x3 : Int32) (s0 : Int32) (M : gq_M) : Option (Int32 × gq_M) :=
  if s0 = 0 then (f_X10_quota_46 N  x1 x2 x3 1 M) else (gq_b (f_X10_isIn N x3 0 100000 M) fun v10 M11 => if v10 = 0 then (f_X10_quota_46 N  x1 x2 x3 2 M11) else (f_X10_quota_46 N  x1 x2 x3 0 M11))
def f_X10_quota_18 (N : Nat) (x1 : Int32) (x2 : Int32) (x3 : Int32) (M : gq_M) : Option (Int32 × gq_M) :=
  f_X10_quota_19 N  x1 x2 x3 0 M
def f_X10_quota (N : Nat) (a1 : Int32) (a2 : Int32) (a3 : Int32) (M : gq_M) : Option (Int32 × gq_M) :=
  gq_b (f_X10_isEight N a1 M) fun v1 M2 => if v1 = 0 then (f_X10_quota_18 N  a1 a2 a3 M2) else (gq_b (f_X10_isKind N a2 M2) fun v5 M6 => if v5 = 0 then (f_X10_quota_18 N  a1 a2 a3 M6) else (f_X10_quota_19 N  a1 a2 a3 1 M6))
def f_X10_aid_27 (N : Nat) (x1 : Int32) (x2 : Int32) (x3 : Int32) (s1 : Int32) (M : gq_M) : Option (Int32 × gq_M) :=
  gq_b (f_X10_fails N s1 M) fun v9 M10 => if v9 = 0 then (gq_g (gq_in x1 8) (gq_l (M10 3 x1.toNatClampNeg) fun v14 => gq_g (gq_in x1 8) (gq_l (gq_up M10 3 x1.toNatClampNeg x2) fun M16 => gq_g (gq_in x1 8) (gq_g (gq_bb x3) (gq_l (gq_up M16 4 x1.toNatClampNeg x3) fun M19 => some (v14, M19)))))) else (some (0, M10))
def f_X10_aid (N : Nat) (a1 : Int32) (a2 : Int32) (a3 : Int32) (M : gq_M) : Option (Int32 × gq_M) :=
  gq_b (f_X10_isEight N a1 M) fun v1 M2 => if v1 = 0 then (f_X10_aid_27 N  a1 a2 a3 1 M2) else (gq_b (f_X10_isIn N a2 0 100000 M2) fun v5 M6 => if v5 = 0 then (f_X10_aid_27 N  a1 a2 a3 2 M6) else (f_X10_aid_27 N  a1 a2 a3 0 M6))
def f_X10_kind_71 (N : Nat) (x1 : Int32) (x2 : Int32) (x3 : Int32) (x4 : Int32) (s1 : Int32) (M : gq_M) : Option (Int32 × gq_M) :=
  gq_b (f_X10_fails N s1 M) fun v19 M20 => if v19 = 0 then (gq_g (gq_in x1 4) (gq_l (gq_up M20 6 x1.toNatClampNeg x2) fun M24 => gq_g (gq_in x1 4) (gq_l (gq_up M24 7 x1.toNatClampNeg x3) fun M26 => gq_g (gq_in x1 4) (gq_l (gq_up M26 8 x1.toNatClampNeg x4) fun M28 => some (0, M28))))) else (some (0, M20))
def f_X10_kind_49 (N : Nat) (x1 : Int32) (x2 : Int32) (x3 : Int32) (x4 : Int32) (x5 : Int32) (s0 : Int32) (M : gq_M) : Option (Int32 × gq_M) :=
  if x5 = 0 then (f_X10_kind_71 N  x1 x2 x3 x4 1 M) else (if s0 = 0 then (f_X10_kind_71 N  x1 x2 x3 x4 2 M) else (f_X10_kind_71 N  x1 x2 x3 x4 0 M))
def f_X10_kind_48 (N : Nat) (x1 : Int32) (x2 : Int32) (x3 : Int32) (x4 : Int32) (x5 : Int32) (M : gq_M) : Option (Int32 × gq_M) :=
  f_X10_kind_49 N  x1 x2 x3 x4 x5 0 M
def f_X10_kind_20 (N : Nat) (x1 : Int32) (x2 : Int32) (x3 : Int32) (x4 : Int32) (s0 : Int32) (M : gq_M) : Option (Int32 × gq_M) :=
  gq_b (f_X10_isIn N x2 1 10000 M) fun v9 M10 => if v9 = 0 then (f_X10_kind_48 N  x1 x2 x3 x4 s0 M10) else (gq_b (f_X10_isIn N x3 1 10000 M10) fun v13 M14 => if v13 = 0 then (f_X10_kind_48 N  x1 x2 x3 x4 s0 M14) else (f_X10_kind_49 N  x1 x2 x3 x4 s0 1 M14))
def f_X10_kind_19 (N : Nat) (x1 : Int32) (x2 : Int32) (x3 : Int32) (x4 : Int32) (M : gq_M) : Option (Int32 × gq_M) :=
  f_X10_kind_20 N  x1 x2 x3 x4 0 M
def f_X10_kind (N : Nat) (a1 : Int32) (a2 : Int32) (a3 : Int32) (a4 : Int32) (M : gq_M) : Option (Int32 × gq_M) :=
  gq_b (f_X10_isKind N a1 M) fun v1 M2 => if v1 = 0 then (f_X10_kind_19 N  a1 a2 a3 a4 M2) else (gq_b (f_X10_isHall N a4 M2) fun v5 M6 => if v5 = 0 then (f_X10_kind_19 N  a1 a2 a3 a4 M6) else (f_X10_kind_20 N  a1 a2 a3 a4 1 M6))
def f_X10_step_28 (N : Nat) (x1 : Int32) (x2 : Int32) (s1 : Int32) (M : gq_M) : Option (Int32 × gq_M) :=
  gq_b (f_X10_fails N s1 M) fun v9 M10 => if v9 = 0 then (gq_g (gq_in x1 3) (gq_l (M10 33 x1.toNatClampNeg) fun v14 => gq_g (gq_in x1 3) (gq_l (gq_up M10 33 x1.toNatClampNeg x2) fun M16 => some (v14, M16)))) else (some (0, M10))
def f_X10_step (N : Nat) (a1 : Int32) (a2 : Int32) (M : gq_M) : Option (Int32 × gq_M) :=
  gq_b (f_X10_isHall N a1 M) fun v1 M2 => if v1 = 0 then (f_X10_step_28 N  a1 a2 1 M2) else (gq_b (f_X10_isIn N a2 1 500 M2) fun v5 M6 => if v5 = 0 then (f_X10_step_28 N  a1 a2 2 M6) else (f_X10_step_28 N  a1 a2 0 M6))
def f_X10_buyer_49 (N : Nat) (x1 : Int32) (x2 : Int32) (x3 : Int32) (s1 : Int32) (M : gq_M) : Option (Int32 × gq_M) :=
  gq_b (f_X10_fails N s1 M) fun v14 M15 => if v14 = 0 then (gq_g (gq_in x1 8) (gq_l (M15 9 x1.toNatClampNeg) fun v19 => gq_g (gq_in x1 8) (gq_l (gq_up M15 9 x1.toNatClampNeg x2) fun M21 => gq_g (gq_in x1 8) (gq_l (gq_up M21 10 x1.toNatClampNeg x3) fun M23 => some (v19, M23))))) else (some (0, M15))
def f_X10_buyer_25 (N : Nat) (x1 : Int32) (x2 : Int32) (x3 : Int32) (s0 : Int32) (M : gq_M) : Option (Int32 × gq_M) :=
  gq_b (f_X10_isEight N x1 M) fun v9 M10 => if v9 = 0 then (f_X10_buyer_49 N  x1 x2 x3 1 M10) else (if s0 = 0 then (f_X10_buyer_49 N  x1 x2 x3 2 M10) else (f_X10_buyer_49 N  x1 x2 x3 0 M10))
def f_X10_buyer_24 (N : Nat) (x1 : Int32) (x2 : Int32) (x3 : Int32) (M : gq_M) : Option (Int32 × gq_M) :=
  f_X10_buyer_25 N  x1 x2 x3 0 M
def f_X10_buyer (N : Nat) (a1 : Int32) (a2 : Int32) (a3 : Int32) (M : gq_M) : Option (Int32 × gq_M) :=
  gq_b (f_X10_isIn N a2 0 100000000 M) fun v1 M2 => if v1 = 0 then (f_X10_buyer_24 N  a1 a2 a3 M2) else (gq_b (f_X10_isIn N a3 1 9 M2) fun v5 M6 => if v5 = 0 then (f_X10_buyer_24 N  a1 a2 a3 M6) else (f_X10_buyer_25 N  a1 a2 a3 1 M6))
def f_X10_draw (N : Nat) (a1 : Int32) (M : gq_M) : Option (Int32 × gq_M) :=
  gq_l (gq_up M 0 54 0) fun M1 => gq_l (gq_up M1 0 3 a1) fun M2 => some ((M1 0 3), M2)
def f_X10_power_13 (N : Nat) (x1 : Int32) (x2 : Int32) (s1 : Int32) (M : gq_M) : Option (Int32 × gq_M) :=
  gq_b (f_X10_fails N s1 M) fun v5 M6 => if v5 = 0 then (gq_g (gq_in x1 3) (gq_l (M6 34 x1.toNatClampNeg) fun v10 => gq_g (gq_in x1 3) (gq_g (gq_bb x2) (gq_l (gq_up M6 34 x1.toNatClampNeg x2) fun M13 => gq_g (gq_bb v10) (some (v10, M13)))))) else (some (0, M6))
def f_X10_power (N : Nat) (a1 : Int32) (a2 : Int32) (M : gq_M) : Option (Int32 × gq_M) :=
  gq_b (f_X10_isHall N a1 M) fun v1 M2 => if v1 = 0 then (f_X10_power_13 N  a1 a2 1 M2) else (f_X10_power_13 N  a1 a2 0 M2)
def f_X10_line_13 (N : Nat) (x1 : Int32) (x2 : Int32) (s1 : Int32) (M : gq_M) : Option (Int32 × gq_M) :=
  gq_b (f_X10_fails N s1 M) fun v5 M6 => if v5 = 0 then (gq_g (gq_in x1 8) (gq_l (M6 12 x1.toNatClampNeg) fun v10 => gq_g (gq_in x1 8) (gq_g (gq_bb x2) (gq_l (gq_up M6 12 x1.toNatClampNeg x2) fun M13 => gq_g (gq_bb v10) (some (v10, M13)))))) else (some (0, M6))
def f_X10_line (N : Nat) (a1 : Int32) (a2 : Int32) (M : gq_M) : Option (Int32 × gq_M) :=
  gq_b (f_X10_isEight N a1 M) fun v1 M2 => if v1 = 0 then (f_X10_line_13 N  a1 a2 1 M2) else (f_X10_line_13 N  a1 a2 0 M2)
def f_X10_land_235 (N : Nat) (s1 : Int32) (s2 : Int32) (M : gq_M) : Option (Int32 × gq_M) :=
  gq_g (gq_in s1 150) (gq_l (gq_up M 19 s1.toNatClampNeg s2) fun M56 => gq_g (gq_in (M56 0 16) 150) (gq_l (gq_up M56 21 ((M56 0 16) : Int32).toNatClampNeg (-1)) fun M58 => gq_g (gq_in (M58 0 16) 150) (gq_l (gq_up M58 22 ((M58 0 16) : Int32).toNatClampNeg (-1)) fun M60 => gq_g (gq_in (M60 0 16) 150) (gq_l (gq_up M60 26 ((M60 0 16) : Int32).toNatClampNeg (-1)) fun M62 => gq_l (gq_up M62 0 16 ((M62 0 16) + 1)) fun M63 => some (((M63 0 16) - 1), M63)))))
def f_X10_land_104 (N : Nat) (x1 : Int32) (x2 : Int32) (x3 : Int32) (x4 : Int32) (x5 : Int32) (x6 : Int32) (s1 : Int32) (M : gq_M) : Option (Int32 × gq_M) :=
  gq_b (f_X10_fails N s1 M) fun v28 M29 => if v28 = 0 then (gq_g (gq_in ((4 * x1) + x2) 32) (gq_l (M29 2 (((4 * x1) + x2) : Int32).toNatClampNeg) fun v33 => gq_g (gq_in ((4 * x1) + x2) 32) (gq_l (gq_up M29 2 (((4 * x1) + x2) : Int32).toNatClampNeg (v33 + x5)) fun M35 => gq_g (gq_in (M35 0 16) 150) (gq_l (gq_up M35 13 ((M35 0 16) : Int32).toNatClampNeg x1) fun M37 => gq_g (gq_in (M37 0 16) 150) (gq_l (gq_up M37 14 ((M37 0 16) : Int32).toNatClampNeg x2) fun M39 => gq_g (gq_in (M39 0 16) 150) (gq_l (gq_up M39 15 ((M39 0 16) : Int32).toNatClampNeg x3) fun M41 => gq_g (gq_in (M41 0 16) 150) (gq_l (gq_up M41 16 ((M41 0 16) : Int32).toNatClampNeg x4) fun M43 => gq_g (gq_in (M43 0 16) 150) (gq_l (gq_up M43 17 ((M43 0 16) : Int32).toNatClampNeg x5) fun M45 => gq_g (gq_in (M45 0 16) 150) (gq_l (gq_up M45 18 ((M45 0 16) : Int32).toNatClampNeg x6) fun M47 => gq_g (gq_in ((4 * x1) + x2) 32) (gq_l (M47 2 (((4 * x1) + x2) : Int32).toNatClampNeg) fun v49 => gq_g (gq_in ((4 * x1) + x2) 32) (gq_l (M47 1 (((4 * x1) + x2) : Int32).toNatClampNeg) fun v51 => gq_g (gq_in ((4 * x1) + x2) 32) (gq_l (M47 1 (((4 * x1) + x2) : Int32).toNatClampNeg) fun v53 => if v49 ≤ (v51 + (v53 / 10)) then (f_X10_land_235 N  (M47 0 16) 0 M47) else (f_X10_land_235 N  (M47 0 16) 1 M47))))))))))))) else (some (0, M29))
def f_X10_land_68 (N : Nat) (x1 : Int32) (x2 : Int32) (x3 : Int32) (x4 : Int32) (x5 : Int32) (x6 : Int32) (x7 : Int32) (s0 : Int32) (M : gq_M) : Option (Int32 × gq_M) :=
  if x7 = 0 then (f_X10_land_104 N  x1 x2 x3 x4 x5 x6 1 M) else (if s0 = 0 then (f_X10_land_104 N  x1 x2 x3 x4 x5 x6 2 M) else (if (M 0 16) = 150 then (f_X10_land_104 N  x1 x2 x3 x4 x5 x6 3 M) else (f_X10_land_104 N  x1 x2 x3 x4 x5 x6 0 M)))
def f_X10_land_67 (N : Nat) (x1 : Int32) (x2 : Int32) (x3 : Int32) (x4 : Int32) (x5 : Int32) (x6 : Int32) (x7 : Int32) (M : gq_M) : Option (Int32 × gq_M) :=
  f_X10_land_68 N  x1 x2 x3 x4 x5 x6 x7 0 M
def f_X10_land_19 (N : Nat) (x1 : Int32) (x2 : Int32) (x3 : Int32) (x4 : Int32) (x5 : Int32) (x6 : Int32) (s0 : Int32) (M : gq_M) : Option (Int32 × gq_M) :=
  gq_b (f_X10_isIn N x3 0 2 M) fun v9 M10 => if v9 = 0 then (f_X10_land_67 N  x1 x2 x3 x4 x5 x6 s0 M10) else (gq_b (f_X10_isIn N x4 1 9 M10) fun v13 M14 => if v13 = 0 then (f_X10_land_67 N  x1 x2 x3 x4 x5 x6 s0 M14) else (gq_b (f_X10_isIn N x5 1 100 M14) fun v17 M18 => if v17 = 0 then (f_X10_land_67 N  x1 x2 x3 x4 x5 x6 s0 M18) else (gq_b (f_X10_isIn N x6 1 100 M18) fun v21 M22 => if v21 = 0 then (f_X10_land_67 N  x1 x2 x3 x4 x5 x6 s0 M22) else (f_X10_land_68 N  x1 x2 x3 x4 x5 x6 s0 1 M22))))
def f_X10_land_18 (N : Nat) (x1 : Int32) (x2 : Int32) (x3 : Int32) (x4 : Int32) (x5 : Int32) (x6 : Int32) (M : gq_M) : Option (Int32 × gq_M) :=
  f_X10_land_19 N  x1 x2 x3 x4 x5 x6 0 M
def f_X10_land (N : Nat) (a1 : Int32) (a2 : Int32) (a3 : Int32) (a4 : Int32) (a5 : Int32) (a6 : Int32) (M : gq_M) : Option (Int32 × gq_M) :=
  gq_b (f_X10_isEight N a1 M) fun v1 M2 => if v1 = 0 then (f_X10_land_18 N  a1 a2 a3 a4 a5 a6 M2) else (gq_b (f_X10_isKind N a2 M2) fun v5 M6 => if v5 = 0 then (f_X10_land_18 N  a1 a2 a3 a4 a5 a6 M6) else (f_X10_land_19 N  a1 a2 a3 a4 a5 a6 1 M6))
def f_X10_isToSell_25 (N : Nat) (s0 : Int32) (M : gq_M) : Option (Int32 × gq_M) :=
  gq_g (gq_bb s0) (some (s0, M))
def f_X10_isToSell_20 (N : Nat) (M : gq_M) : Option (Int32 × gq_M) :=
  f_X10_isToSell_25 N  1 M
def f_X10_isToSell (N : Nat) (a1 : Int32) (M : gq_M) : Option (Int32 × gq_M) :=
  gq_g (gq_in a1 150) (gq_l (M 19 a1.toNatClampNeg) fun v2 => if v2 = 0 then (f_X10_isToSell_20 N   M) else (gq_g (gq_in a1 150) (gq_l (M 19 a1.toNatClampNeg) fun v5 => if v5 = 6 then (f_X10_isToSell_20 N   M) else (f_X10_isToSell_25 N  0 M))))
def f_X10_ready_48 (N : Nat) (kh4 : Int32 → Int32 → Int32 → gq_M → Option (Int32 × gq_M)) (x1 : Int32) (x3 : Int32) (s0 : Int32) (s1 : Int32) (M : gq_M) : Option (Int32 × gq_M) :=
  kh4 x1 (s0 ||| s1) (x3 + 1) M
def f_X10_ready_47 (N : Nat) (kh4 : Int32 → Int32 → Int32 → gq_M → Option (Int32 × gq_M)) (x1 : Int32) (x3 : Int32) (s0 : Int32) (M : gq_M) : Option (Int32 × gq_M) :=
  f_X10_ready_48 N kh4 x1 x3 s0 0 M
def f_X10_ready_4_b (N : Nat) (kh4 : Int32 → Int32 → Int32 → gq_M → Option (Int32 × gq_M)) (x1 : Int32) (x2 : Int32) (x3 : Int32) (M : gq_M) : Option (Int32 × gq_M) :=
  if (M 0 16) ≤ x3 then (some (x2, M)) else (gq_b (f_X10_isToSell N x3 M) fun v2 M3 => if v2 = 0 then (f_X10_ready_47 N kh4 x1 x3 x2 M3) else (gq_g (gq_in x3 150) (gq_l (M3 13 x3.toNatClampNeg) fun v7 => gq_g (gq_in v7 8) (gq_l (M3 4 v7.toNatClampNeg) fun v9 => if v9 = x1 then (gq_g (gq_in x3 150) (gq_l (M3 13 x3.toNatClampNeg) fun v12 => f_X10_ready_48 N kh4 x1 x3 x2 (1 <<< (v12 &&& 31)) M3)) else (f_X10_ready_47 N kh4 x1 x3 x2 M3)))))
def f_X10_ready_4 (N : Nat) : Nat → Int32 → Int32 → Int32 → gq_M → Option (Int32 × gq_M)
  | 0 => fun _ _ _ _ => none
  | n9 + 1 => f_X10_ready_4_b N  (f_X10_ready_4 N  n9)
def f_X10_ready (N : Nat) (a1 : Int32) (M : gq_M) : Option (Int32 × gq_M) :=
  f_X10_ready_4 N  N a1 0 0 M
def f_X10_size_4_b (N : Nat) (kh4 : Int32 → Int32 → Int32 → gq_M → Option (Int32 × gq_M)) (x0 : Int32) (x1 : Int32) (x2 : Int32) (M : gq_M) : Option (Int32 × gq_M) :=
  if 8 ≤ x2 then (some (x1, M)) else (kh4 x0 (x1 + ((x0 >>> (x2 &&& 31)) &&& 1)) (x2 + 1) M)
def f_X10_size_4 (N : Nat) : Nat → Int32 → Int32 → Int32 → gq_M → Option (Int32 × gq_M)
  | 0 => fun _ _ _ _ => none
  | n9 + 1 => f_X10_size_4_b N  (f_X10_size_4 N  n9)
def f_X10_size (N : Nat) (a0 : Int32) (M : gq_M) : Option (Int32 × gq_M) :=
  f_X10_size_4 N  N a0 0 0 M
def f_X10_drawn_64 (N : Nat) (kh33 : Int32 → Int32 → Int32 → Int32 → gq_M → Option (Int32 × gq_M)) (x1 : Int32) (x2 : Int32) (x3 : Int32) (x4 : Int32) (M : gq_M) : Option (Int32 × gq_M) :=
  kh33 x1 x2 x3 (x4 + 1) M
def f_X10_drawn_60 (N : Nat) (kh33 : Int32 → Int32 → Int32 → Int32 → gq_M → Option (Int32 × gq_M)) (x1 : Int32) (x2 : Int32) (x4 : Int32) (s0 : Int32) (M : gq_M) : Option (Int32 × gq_M) :=
  f_X10_drawn_64 N kh33 x1 (x2 + (-1)) s0 x4 M
def f_X10_drawn_33_b (N : Nat) (kh33 : Int32 → Int32 → Int32 → Int32 → gq_M → Option (Int32 × gq_M)) (x1 : Int32) (x2 : Int32) (x3 : Int32) (x4 : Int32) (M : gq_M) : Option (Int32 × gq_M) :=
  if 8 ≤ x4 then (some (x3, M)) else (if ((x1 >>> (x4 &&& 31)) &&& 1) = 1 then (if x2 = 0 then (f_X10_drawn_60 N kh33 x1 x2 x4 x4 M) else (f_X10_drawn_60 N kh33 x1 x2 x4 x3 M)) else (f_X10_drawn_64 N kh33 x1 x2 x3 x4 M))
def f_X10_drawn_33 (N : Nat) : Nat → Int32 → Int32 → Int32 → Int32 → gq_M → Option (Int32 × gq_M)
  | 0 => fun _ _ _ _ _ => none
  | n9 + 1 => f_X10_drawn_33_b N  (f_X10_drawn_33 N  n9)
def f_X10_drawn (N : Nat) (a1 : Int32) (M : gq_M) : Option (Int32 × gq_M) :=
  gq_l (gq_up M 0 3 (((M 0 3) * 1103515245) + 12345)) fun M1 => gq_l ((((M1 0 3) : Int32).toUInt32 >>> ((16 : Int32).toUInt32 &&& Int32.toUInt32 31)).toInt32) fun v2 => gq_b (f_X10_size N a1 M1) fun v3 M4 => gq_g (gq_nz v3) (f_X10_drawn_33 N  N a1 (v2 - v2 / v3 * v3) (-1) 0 M4)
def f_X10_parts_210 (N : Nat) (kh2 : Int32 → Int32 → gq_M → Option (Int32 × gq_M)) (x1 : Int32) (x2 : Int32) (M : gq_M) : Option (Int32 × gq_M) :=
  kh2 x1 (x2 + 1) M
def f_X10_parts_122 (N : Nat) (kh2 : Int32 → Int32 → gq_M → Option (Int32 × gq_M)) (kh36 : Int32 → Int32 → Int32 → Int32 → Int32 → Int32 → Int32 → gq_M → Option (Int32 × gq_M)) (x1 : Int32) (x2 : Int32) (x3 : Int32) (x4 : Int32) (x5 : Int32) (x6 : Int32) (x7 : Int32) (M : gq_M) : Option (Int32 × gq_M) :=
  kh36 x1 x2 x3 x4 x5 x6 (x7 + 1) M
def f_X10_parts_36_b (N : Nat) (kh2 : Int32 → Int32 → gq_M → Option (Int32 × gq_M)) (kh36 : Int32 → Int32 → Int32 → Int32 → Int32 → Int32 → Int32 → gq_M → Option (Int32 × gq_M)) (x1 : Int32) (x2 : Int32) (x3 : Int32) (x4 : Int32) (x5 : Int32) (x6 : Int32) (x7 : Int32) (M : gq_M) : Option (Int32 × gq_M) :=
  if (M 0 16) ≤ x7 then (if x6 = 0 then (f_X10_parts_210 N kh2 x1 x2 M) else (gq_g (gq_in (M 0 31) 150) (gq_l (gq_up M 27 ((M 0 31) : Int32).toNatClampNeg x1) fun M5 => gq_g (gq_in (M5 0 31) 150) (gq_l (gq_up M5 28 ((M5 0 31) : Int32).toNatClampNeg x3) fun M7 => gq_g (gq_in (M7 0 31) 150) (gq_l (gq_up M7 29 ((M7 0 31) : Int32).toNatClampNeg x4) fun M9 => gq_g (gq_in (M9 0 31) 150) (gq_l (gq_up M9 30 ((M9 0 31) : Int32).toNatClampNeg x5) fun M11 => gq_g (gq_in x3 4) (gq_l (M11 8 x3.toNatClampNeg) fun v13 => gq_g (gq_in (M11 0 31) 150) (gq_l (gq_up M11 31 ((M11 0 31) : Int32).toNatClampNeg v13) fun M15 => gq_g (gq_in (M15 0 31) 150) (gq_l (gq_up M15 32 ((M15 0 31) : Int32).toNatClampNeg 0) fun M17 => gq_l (gq_up M17 0 31 ((M17 0 31) + 1)) fun M18 => f_X10_parts_210 N kh2 x1 x2 M18))))))))) else (gq_b (f_X10_isToSell N x7 M) fun v19 M20 => if v19 = 0 then (f_X10_parts_122 N kh2 kh36 x1 x2 x3 x4 x5 x6 x7 M20) else (gq_g (gq_in x7 150) (gq_l (M20 13 x7.toNatClampNeg) fun v24 => if v24 = x1 then (gq_g (gq_in x7 150) (gq_l (M20 14 x7.toNatClampNeg) fun v27 => if v27 = x3 then (gq_g (gq_in x7 150) (gq_l (M20 15 x7.toNatClampNeg) fun v30 => if v30 = x4 then (gq_g (gq_in x7 150) (gq_l (M20 16 x7.toNatClampNeg) fun v33 => if v33 = x5 then (gq_g (gq_in x7 150) (gq_l (gq_up M20 19 x7.toNatClampNeg 2) fun M36 => gq_g (gq_in x7 150) (gq_l (gq_up M36 26 x7.toNatClampNeg (M36 0 31)) fun M38 => f_X10_parts_122 N kh2 kh36 x1 x2 x3 x4 x5 1 x7 M38))) else (f_X10_parts_122 N kh2 kh36 x1 x2 x3 x4 x5 x6 x7 M20))) else (f_X10_parts_122 N kh2 kh36 x1 x2 x3 x4 x5 x6 x7 M20))) else (f_X10_parts_122 N kh2 kh36 x1 x2 x3 x4 x5 x6 x7 M20))) else (f_X10_parts_122 N kh2 kh36 x1 x2 x3 x4 x5 x6 x7 M20))))
def f_X10_parts_36 (N : Nat) (kh2 : Int32 → Int32 → gq_M → Option (Int32 × gq_M)) : Nat → Int32 → Int32 → Int32 → Int32 → Int32 → Int32 → Int32 → gq_M → Option (Int32 × gq_M)
  | 0 => fun _ _ _ _ _ _ _ _ => none
  | n9 + 1 => f_X10_parts_36_b N kh2 (f_X10_parts_36 N kh2 n9)
def f_X10_parts_2_b (N : Nat) (kh2 : Int32 → Int32 → gq_M → Option (Int32 × gq_M)) (x1 : Int32) (x2 : Int32) (M : gq_M) : Option (Int32 × gq_M) :=
  if 108 ≤ x2 then (some (0, M)) else (f_X10_parts_36 N kh2 N x1 x2 (x2 / 27) ((x2 / 9) - (x2 / 9) / 3 * 3) (9 - (x2 - x2 / 9 * 9)) 0 0 M)
def f_X10_parts_2 (N : Nat) : Nat → Int32 → Int32 → gq_M → Option (Int32 × gq_M)
  | 0 => fun _ _ _ => none
  | n9 + 1 => f_X10_parts_2_b N  (f_X10_parts_2 N  n9)
def f_X10_parts (N : Nat) (a1 : Int32) (M : gq_M) : Option (Int32 × gq_M) :=
  f_X10_parts_2 N  N a1 0 M
def f_X10_drawsAll_6_b (N : Nat) (kh6 : Int32 → gq_M → Option (Int32 × gq_M)) (x2 : Int32) (M : gq_M) : Option (Int32 × gq_M) :=
  if x2 = 0 then (some (0, M)) else (gq_b (f_X10_drawn N x2 M) fun v5 M6 => gq_b (f_X10_parts N v5 M6) fun v8 M9 => kh6 (x2 &&& ((1 <<< (v5 &&& 31)) ^^^ (-1))) M9)
def f_X10_drawsAll_6 (N : Nat) : Nat → Int32 → gq_M → Option (Int32 × gq_M)
  | 0 => fun _ _ => none
  | n9 + 1 => f_X10_drawsAll_6_b N  (f_X10_drawsAll_6 N  n9)
def f_X10_drawsAll (N : Nat) (a1 : Int32) (M : gq_M) : Option (Int32 × gq_M) :=
  gq_b (f_X10_ready N a1 M) fun v1 M2 => f_X10_drawsAll_6 N  N v1 M2
def f_X10_begins_5_b (N : Nat) (kh5 : Int32 → Int32 → gq_M → Option (Int32 × gq_M)) (x1 : Int32) (x2 : Int32) (M : gq_M) : Option (Int32 × gq_M) :=
  if ((8 * x1) + 8) ≤ x2 then (some (0, M)) else (gq_g (gq_in x2 24) (gq_l (gq_up M 40 x2.toNatClampNeg (-1)) fun M3 => gq_g (gq_in x2 24) (gq_l (gq_up M3 43 x2.toNatClampNeg 0) fun M5 => kh5 x1 (x2 + 1) M5)))
def f_X10_begins_5 (N : Nat) : Nat → Int32 → Int32 → gq_M → Option (Int32 × gq_M)
  | 0 => fun _ _ _ => none
  | n9 + 1 => f_X10_begins_5_b N  (f_X10_begins_5 N  n9)
def f_X10_begins (N : Nat) (a1 : Int32) (M : gq_M) : Option (Int32 × gq_M) :=
  f_X10_begins_5 N  N a1 (8 * a1) M
def f_X10_comes_115 (N : Nat) (x1 : Int32) (s1 : Int32) (s2 : Int32) (M : gq_M) : Option (Int32 × gq_M) :=
  gq_g (gq_in s1 3) (gq_l (gq_up M 37 s1.toNatClampNeg s2) fun M29 => gq_g (gq_in x1 3) (gq_l (gq_up M29 39 x1.toNatClampNeg (-1)) fun M31 => gq_b (f_X10_begins N x1 M31) fun v32 M33 => some (0, M33)))
def f_X10_comes_79 (N : Nat) (x1 : Int32) (s1 : Int32) (s2 : Int32) (M : gq_M) : Option (Int32 × gq_M) :=
  gq_g (gq_in s1 3) (gq_l (gq_up M 35 s1.toNatClampNeg s2) fun M18 => gq_g (gq_in x1 3) (gq_l (M18 36 x1.toNatClampNeg) fun v20 => if v20 = (-1) then (f_X10_comes_115 N  x1 x1 0 M18) else (gq_g (gq_in x1 3) (gq_l (M18 36 x1.toNatClampNeg) fun v23 => gq_g (gq_in v23 150) (gq_l (M18 28 v23.toNatClampNeg) fun v25 => gq_g (gq_in v25 4) (gq_l (M18 6 v25.toNatClampNeg) fun v27 => f_X10_comes_115 N  x1 x1 v27 M18))))))
def f_X10_comes_52 (N : Nat) (kh14 : Int32 → Int32 → gq_M → Option (Int32 × gq_M)) (x1 : Int32) (x2 : Int32) (s1 : Int32) (s2 : Int32) (M : gq_M) : Option (Int32 × gq_M) :=
  gq_g (gq_in s1 3) (gq_l (gq_up M 36 s1.toNatClampNeg s2) fun M14 => kh14 x1 (x2 + (-1)) M14)
def f_X10_comes_46 (N : Nat) (kh14 : Int32 → Int32 → gq_M → Option (Int32 × gq_M)) (x1 : Int32) (x2 : Int32) (s1 : Int32) (M : gq_M) : Option (Int32 × gq_M) :=
  gq_g (gq_in x1 3) (gq_l (M 36 x1.toNatClampNeg) fun v16 => f_X10_comes_52 N kh14 x1 x2 s1 v16 M)
def f_X10_comes_14_b (N : Nat) (kh14 : Int32 → Int32 → gq_M → Option (Int32 × gq_M)) (x1 : Int32) (x2 : Int32) (M : gq_M) : Option (Int32 × gq_M) :=
  if x2 < 0 then (gq_g (gq_in x1 3) (gq_l (M 36 x1.toNatClampNeg) fun v5 => if v5 = (-1) then (f_X10_comes_79 N  x1 x1 0 M) else (f_X10_comes_79 N  x1 x1 1 M))) else (gq_g (gq_in x2 150) (gq_l (M 31 x2.toNatClampNeg) fun v8 => if v8 = x1 then (gq_g (gq_in x2 150) (gq_l (M 32 x2.toNatClampNeg) fun v11 => if v11 = 0 then (f_X10_comes_52 N kh14 x1 x2 x1 x2 M) else (f_X10_comes_46 N kh14 x1 x2 x1 M))) else (f_X10_comes_46 N kh14 x1 x2 x1 M)))
def f_X10_comes_14 (N : Nat) : Nat → Int32 → Int32 → gq_M → Option (Int32 × gq_M)
  | 0 => fun _ _ _ => none
  | n9 + 1 => f_X10_comes_14_b N  (f_X10_comes_14 N  n9)
def f_X10_comes (N : Nat) (a1 : Int32) (M : gq_M) : Option (Int32 × gq_M) :=
  gq_g (gq_in a1 3) (gq_l (gq_up M 36 a1.toNatClampNeg (-1)) fun M2 => f_X10_comes_14 N  N a1 ((M2 0 31) - 1) M2)
def f_X10_open_80_b (N : Nat) (kh80 : Int32 → gq_M → Option (Int32 × gq_M)) (x1 : Int32) (M : gq_M) : Option (Int32 × gq_M) :=
  if 3 ≤ x1 then (some ((M 0 31), M)) else (gq_b (f_X10_comes N x1 M) fun v25 M26 => kh80 (x1 + 1) M26)
def f_X10_open_80 (N : Nat) : Nat → Int32 → gq_M → Option (Int32 × gq_M)
  | 0 => fun _ _ => none
  | n9 + 1 => f_X10_open_80_b N  (f_X10_open_80 N  n9)
def f_X10_open_47_b (N : Nat) (kh47 : Int32 → gq_M → Option (Int32 × gq_M)) (x1 : Int32) (M : gq_M) : Option (Int32 × gq_M) :=
  if (M 0 16) ≤ x1 then (gq_b (f_X10_drawsAll N 1 M) fun v16 M17 => gq_b (f_X10_drawsAll N 0 M17) fun v19 M20 => f_X10_open_80 N  N 0 M20) else (gq_g (gq_in x1 150) (gq_l (gq_up M 26 x1.toNatClampNeg (-1)) fun M23 => kh47 (x1 + 1) M23))
def f_X10_open_47 (N : Nat) : Nat → Int32 → gq_M → Option (Int32 × gq_M)
  | 0 => fun _ _ => none
  | n9 + 1 => f_X10_open_47_b N  (f_X10_open_47 N  n9)
def f_X10_open_27 (N : Nat) (s1 : Int32) (M : gq_M) : Option (Int32 × gq_M) :=
  gq_b (f_X10_fails N s1 M) fun v9 M10 => if v9 = 0 then (gq_l (gq_up M10 0 2 1) fun M13 => gq_l (gq_up M13 0 31 0) fun M14 => f_X10_open_47 N  N 0 M14) else (some (0, M10))
def f_X10_open_22 (N : Nat) (M : gq_M) : Option (Int32 × gq_M) :=
  f_X10_open_27 N  1 M
def f_X10_open (N : Nat) (M : gq_M) : Option (Int32 × gq_M) :=
  if (M 0 2) = 0 then (gq_b (f_X10_ready N 1 M) fun v2 M3 => gq_b (f_X10_ready N 0 M3) fun v5 M6 => if (v2 ||| v5) = 0 then (f_X10_open_22 N   M6) else (f_X10_open_27 N  0 M6)) else (f_X10_open_22 N   M)
def f_X10_withdraws_120 (N : Nat) (x1 : Int32) (M : gq_M) : Option (Int32 × gq_M) :=
  gq_g (gq_in x1 150) (gq_l (gq_up M 19 x1.toNatClampNeg 7) fun M41 => some (0, M41))
def f_X10_withdraws (N : Nat) (a1 : Int32) (M : gq_M) : Option (Int32 × gq_M) :=
  gq_g (gq_in a1 150) (gq_l (M 13 a1.toNatClampNeg) fun v2 => gq_g (gq_in v2 8) (gq_l (M 3 v2.toNatClampNeg) fun v4 => gq_g (gq_in a1 150) (gq_l (M 17 a1.toNatClampNeg) fun v6 => if v4 < v6 then (gq_g (gq_in a1 150) (gq_l (M 20 a1.toNatClampNeg) fun v9 => if v9 = 0 then (gq_g (gq_in a1 150) (gq_l (M 16 a1.toNatClampNeg) fun v12 => if v12 ≤ 1 then (f_X10_withdraws_120 N  a1 M) else (gq_g (gq_in a1 150) (gq_l (gq_up M 19 a1.toNatClampNeg 6) fun M15 => gq_g (gq_in a1 150) (gq_l (gq_up M15 20 a1.toNatClampNeg 1) fun M17 => gq_g (gq_in a1 150) (gq_l (M17 16 a1.toNatClampNeg) fun v19 => gq_g (gq_in a1 150) (gq_l (gq_up M17 16 a1.toNatClampNeg (v19 - 1)) fun M21 => some (0, M21)))))))) else (f_X10_withdraws_120 N  a1 M))) else (gq_g (gq_in a1 150) (gq_l (gq_up M 19 a1.toNatClampNeg 5) fun M23 => gq_g (gq_in a1 150) (gq_l (M23 13 a1.toNatClampNeg) fun v25 => gq_g (gq_in v25 8) (gq_l (M23 3 v25.toNatClampNeg) fun v27 => gq_g (gq_in a1 150) (gq_l (M23 17 a1.toNatClampNeg) fun v29 => gq_g (gq_in v25 8) (gq_l (gq_up M23 3 v25.toNatClampNeg (v27 - v29)) fun M31 => gq_g (gq_in a1 150) (gq_l (M31 13 a1.toNatClampNeg) fun v33 => gq_g (gq_in v33 8) (gq_l (M31 5 v33.toNatClampNeg) fun v35 => gq_g (gq_in a1 150) (gq_l (M31 17 a1.toNatClampNeg) fun v37 => gq_g (gq_in v33 8) (gq_l (gq_up M31 5 v33.toNatClampNeg (v35 + (20 * v37))) fun M39 => some (0, M39))))))))))))))
def f_X10_withdrawsAll_40 (N : Nat) (kh4 : Int32 → Int32 → Int32 → gq_M → Option (Int32 × gq_M)) (x1 : Int32) (x2 : Int32) (x3 : Int32) (M : gq_M) : Option (Int32 × gq_M) :=
  kh4 x1 x2 (x3 + 1) M
def f_X10_withdrawsAll_4_b (N : Nat) (kh4 : Int32 → Int32 → Int32 → gq_M → Option (Int32 × gq_M)) (x1 : Int32) (x2 : Int32) (x3 : Int32) (M : gq_M) : Option (Int32 × gq_M) :=
  if (M 0 16) ≤ x3 then (some (x2, M)) else (gq_g (gq_in x3 150) (gq_l (M 26 x3.toNatClampNeg) fun v3 => if v3 = x1 then (gq_g (gq_in x3 150) (gq_l (M 19 x3.toNatClampNeg) fun v6 => if v6 = 2 then (gq_b (f_X10_withdraws N x3 M) fun v8 M9 => f_X10_withdrawsAll_40 N kh4 x1 (x2 + 1) x3 M9) else (f_X10_withdrawsAll_40 N kh4 x1 x2 x3 M))) else (f_X10_withdrawsAll_40 N kh4 x1 x2 x3 M)))
def f_X10_withdrawsAll_4 (N : Nat) : Nat → Int32 → Int32 → Int32 → gq_M → Option (Int32 × gq_M)
  | 0 => fun _ _ _ _ => none
  | n9 + 1 => f_X10_withdrawsAll_4_b N  (f_X10_withdrawsAll_4 N  n9)
def f_X10_withdrawsAll (N : Nat) (a1 : Int32) (M : gq_M) : Option (Int32 × gq_M) :=
  f_X10_withdrawsAll_4 N  N a1 0 0 M
def f_X10_ends (N : Nat) (a1 : Int32) (M : gq_M) : Option (Int32 × gq_M) :=
  gq_g (gq_in a1 3) (gq_l (M 36 a1.toNatClampNeg) fun v2 => gq_g (gq_in v2 150) (gq_l (gq_up M 32 v2.toNatClampNeg 1) fun M4 => gq_b (f_X10_comes N a1 M4) fun v5 M6 => some (0, M6)))
def f_X10_end_87_b (N : Nat) (kh87 : Int32 → Int32 → gq_M → Option (Int32 × gq_M)) (x1 : Int32) (x2 : Int32) (M : gq_M) : Option (Int32 × gq_M) :=
  if (M 0 16) ≤ x2 then (some (x1, M)) else (gq_g (gq_in x2 150) (gq_l (gq_up M 26 x2.toNatClampNeg (-1)) fun M19 => kh87 x1 (x2 + 1) M19))
def f_X10_end_87 (N : Nat) : Nat → Int32 → Int32 → gq_M → Option (Int32 × gq_M)
  | 0 => fun _ _ _ => none
  | n9 + 1 => f_X10_end_87_b N  (f_X10_end_87 N  n9)
def f_X10_end_69_b (N : Nat) (kh69 : Int32 → Int32 → gq_M → Option (Int32 × gq_M)) (x1 : Int32) (x2 : Int32) (M : gq_M) : Option (Int32 × gq_M) :=
  if 3 ≤ x2 then (f_X10_end_87 N  N x1 0 M) else (gq_b (f_X10_comes N x2 M) fun v14 M15 => kh69 x1 (x2 + 1) M15)
def f_X10_end_69 (N : Nat) : Nat → Int32 → Int32 → gq_M → Option (Int32 × gq_M)
  | 0 => fun _ _ _ => none
  | n9 + 1 => f_X10_end_69_b N  (f_X10_end_69 N  n9)
def f_X10_end_25_b (N : Nat) (kh25 : Int32 → Int32 → gq_M → Option (Int32 × gq_M)) (x1 : Int32) (x2 : Int32) (M : gq_M) : Option (Int32 × gq_M) :=
  if (M 0 31) ≤ x2 then (gq_l (gq_up M 0 2 0) fun M7 => gq_l (gq_up M7 0 31 0) fun M8 => gq_l (gq_up M8 0 1 ((M8 0 1) + 1)) fun M9 => f_X10_end_69 N  N x1 0 M9) else (gq_b (f_X10_withdrawsAll N x2 M) fun v10 M11 => kh25 (x1 + v10) (x2 + 1) M11)
def f_X10_end_25 (N : Nat) : Nat → Int32 → Int32 → gq_M → Option (Int32 × gq_M)
  | 0 => fun _ _ _ => none
  | n9 + 1 => f_X10_end_25_b N  (f_X10_end_25 N  n9)
def f_X10_end_13 (N : Nat) (s1 : Int32) (M : gq_M) : Option (Int32 × gq_M) :=
  gq_b (f_X10_fails N s1 M) fun v2 M3 => if v2 = 0 then (f_X10_end_25 N  N 0 0 M3) else (some (0, M3))
def f_X10_end (N : Nat) (M : gq_M) : Option (Int32 × gq_M) :=
  if (M 0 2) = 0 then (f_X10_end_13 N  1 M) else (f_X10_end_13 N  0 M)
def f_X10_press_93 (N : Nat) (x1 : Int32) (x2 : Int32) (s1 : Int32) (M : gq_M) : Option (Int32 × gq_M) :=
  gq_b (f_X10_fails N s1 M) fun v24 M25 => if v24 = 0 then (gq_g (gq_in ((8 * x2) + x1) 24) (gq_l (gq_up M25 40 (((8 * x2) + x1) : Int32).toNatClampNeg (M25 0 0)) fun M29 => gq_g (gq_in x1 8) (gq_l (M29 10 x1.toNatClampNeg) fun v31 => gq_g (gq_in ((8 * x2) + x1) 24) (gq_l (gq_up M29 41 (((8 * x2) + x1) : Int32).toNatClampNeg ((M29 0 0) + v31)) fun M33 => gq_g (gq_in x2 3) (gq_l (M33 37 x2.toNatClampNeg) fun v35 => gq_g (gq_in ((8 * x2) + x1) 24) (gq_l (gq_up M33 42 (((8 * x2) + x1) : Int32).toNatClampNeg v35) fun M37 => gq_g (gq_in x2 3) (gq_l (M37 37 x2.toNatClampNeg) fun v39 => some (v39, M37)))))))) else (some (0, M25))
def f_X10_press_72 (N : Nat) (x1 : Int32) (x2 : Int32) (x3 : Int32) (s0 : Int32) (M : gq_M) : Option (Int32 × gq_M) :=
  if x3 = 0 then (f_X10_press_93 N  x1 x2 1 M) else (if s0 = 0 then (f_X10_press_93 N  x1 x2 2 M) else (f_X10_press_93 N  x1 x2 0 M))
def f_X10_press_71 (N : Nat) (x1 : Int32) (x2 : Int32) (x3 : Int32) (M : gq_M) : Option (Int32 × gq_M) :=
  f_X10_press_72 N  x1 x2 x3 0 M
def f_X10_press_19 (N : Nat) (x1 : Int32) (x2 : Int32) (s0 : Int32) (M : gq_M) : Option (Int32 × gq_M) :=
  if s0 = 0 then (f_X10_press_71 N  x1 x2 s0 M) else (gq_g (gq_in x2 3) (gq_l (M 35 x2.toNatClampNeg) fun v11 => if v11 = 1 then (gq_g (gq_in x2 3) (gq_l (M 34 x2.toNatClampNeg) fun v14 => if v14 = 0 then (f_X10_press_71 N  x1 x2 s0 M) else (gq_g (gq_in x1 8) (gq_l (M 12 x1.toNatClampNeg) fun v17 => if v17 = 0 then (f_X10_press_71 N  x1 x2 s0 M) else (gq_g (gq_in ((8 * x2) + x1) 24) (gq_l (M 40 (((8 * x2) + x1) : Int32).toNatClampNeg) fun v20 => if v20 = (-1) then (f_X10_press_72 N  x1 x2 s0 1 M) else (f_X10_press_71 N  x1 x2 s0 M))))))) else (f_X10_press_71 N  x1 x2 s0 M)))
def f_X10_press_18 (N : Nat) (x1 : Int32) (x2 : Int32) (M : gq_M) : Option (Int32 × gq_M) :=
  f_X10_press_19 N  x1 x2 0 M
def f_X10_press (N : Nat) (a1 : Int32) (a2 : Int32) (M : gq_M) : Option (Int32 × gq_M) :=
  gq_b (f_X10_isEight N a1 M) fun v1 M2 => if v1 = 0 then (f_X10_press_18 N  a1 a2 M2) else (gq_b (f_X10_isHall N a2 M2) fun v5 M6 => if v5 = 0 then (f_X10_press_18 N  a1 a2 M6) else (f_X10_press_19 N  a1 a2 1 M6))
def f_X10_firstOf_38 (N : Nat) (kh9 : Int32 → Int32 → Int32 → gq_M → Option (Int32 × gq_M)) (x1 : Int32) (x3 : Int32) (s0 : Int32) (M : gq_M) : Option (Int32 × gq_M) :=
  kh9 x1 s0 (x3 + (-1)) M
def f_X10_firstOf_37 (N : Nat) (kh9 : Int32 → Int32 → Int32 → gq_M → Option (Int32 × gq_M)) (x1 : Int32) (x2 : Int32) (x3 : Int32) (M : gq_M) : Option (Int32 × gq_M) :=
  f_X10_firstOf_38 N kh9 x1 x3 x2 M
def f_X10_firstOf_9_b (N : Nat) (kh9 : Int32 → Int32 → Int32 → gq_M → Option (Int32 × gq_M)) (x1 : Int32) (x2 : Int32) (x3 : Int32) (M : gq_M) : Option (Int32 × gq_M) :=
  if x3 < 0 then (some (x2, M)) else (gq_g (gq_in x3 150) (gq_l (M 26 x3.toNatClampNeg) fun v3 => if v3 = x1 then (gq_g (gq_in x3 150) (gq_l (M 19 x3.toNatClampNeg) fun v6 => if v6 = 2 then (f_X10_firstOf_38 N kh9 x1 x3 x3 M) else (f_X10_firstOf_37 N kh9 x1 x2 x3 M))) else (f_X10_firstOf_37 N kh9 x1 x2 x3 M)))
def f_X10_firstOf_9 (N : Nat) : Nat → Int32 → Int32 → Int32 → gq_M → Option (Int32 × gq_M)
  | 0 => fun _ _ _ _ => none
  | n9 + 1 => f_X10_firstOf_9_b N  (f_X10_firstOf_9 N  n9)
def f_X10_firstOf (N : Nat) (a1 : Int32) (M : gq_M) : Option (Int32 × gq_M) :=
  f_X10_firstOf_9 N  N a1 (-1) ((M 0 16) - 1) M
def f_X10_leftOf_38 (N : Nat) (kh4 : Int32 → Int32 → Int32 → gq_M → Option (Int32 × gq_M)) (x1 : Int32) (x3 : Int32) (s0 : Int32) (s1 : Int32) (M : gq_M) : Option (Int32 × gq_M) :=
  kh4 x1 (s0 + s1) (x3 + 1) M
def f_X10_leftOf_37 (N : Nat) (kh4 : Int32 → Int32 → Int32 → gq_M → Option (Int32 × gq_M)) (x1 : Int32) (x3 : Int32) (s0 : Int32) (M : gq_M) : Option (Int32 × gq_M) :=
  f_X10_leftOf_38 N kh4 x1 x3 s0 0 M
def f_X10_leftOf_4_b (N : Nat) (kh4 : Int32 → Int32 → Int32 → gq_M → Option (Int32 × gq_M)) (x1 : Int32) (x2 : Int32) (x3 : Int32) (M : gq_M) : Option (Int32 × gq_M) :=
  if (M 0 16) ≤ x3 then (some (x2, M)) else (gq_g (gq_in x3 150) (gq_l (M 26 x3.toNatClampNeg) fun v3 => if v3 = x1 then (gq_g (gq_in x3 150) (gq_l (M 19 x3.toNatClampNeg) fun v6 => if v6 = 2 then (f_X10_leftOf_38 N kh4 x1 x3 x2 1 M) else (f_X10_leftOf_37 N kh4 x1 x3 x2 M))) else (f_X10_leftOf_37 N kh4 x1 x3 x2 M)))
def f_X10_leftOf_4 (N : Nat) : Nat → Int32 → Int32 → Int32 → gq_M → Option (Int32 × gq_M)
  | 0 => fun _ _ _ _ => none
  | n9 + 1 => f_X10_leftOf_4_b N  (f_X10_leftOf_4 N  n9)
def f_X10_leftOf (N : Nat) (a1 : Int32) (M : gq_M) : Option (Int32 × gq_M) :=
  f_X10_leftOf_4 N  N a1 0 0 M
def f_X10_canPay_22 (N : Nat) (s0 : Int32) (M : gq_M) : Option (Int32 × gq_M) :=
  gq_g (gq_bb s0) (some (s0, M))
def f_X10_canPay (N : Nat) (a1 : Int32) (a2 : Int32) (M : gq_M) : Option (Int32 × gq_M) :=
  gq_g (gq_in a1 8) (gq_l (M 9 a1.toNatClampNeg) fun v2 => gq_g (gq_in a1 8) (gq_l (M 11 a1.toNatClampNeg) fun v4 => if (v2 - v4) < a2 then (f_X10_canPay_22 N  0 M) else (f_X10_canPay_22 N  1 M)))
def f_X10_costOf_88 (N : Nat) (kh9 : Int32 → Int32 → Int32 → Int32 → Int32 → Int32 → gq_M → Option (Int32 × gq_M)) (x1 : Int32) (x2 : Int32) (x3 : Int32) (x4 : Int32) (x6 : Int32) (s0 : Int32) (s1 : Int32) (M : gq_M) : Option (Int32 × gq_M) :=
  kh9 x1 x2 x3 x4 (s0 + s1) (x6 + 1) M
def f_X10_costOf_73 (N : Nat) (kh9 : Int32 → Int32 → Int32 → Int32 → Int32 → Int32 → gq_M → Option (Int32 × gq_M)) (x1 : Int32) (x2 : Int32) (x3 : Int32) (x5 : Int32) (x6 : Int32) (x7 : Int32) (s0 : Int32) (s1 : Int32) (M : gq_M) : Option (Int32 × gq_M) :=
  if x7 = 0 then (f_X10_costOf_88 N kh9 x1 x2 x3 (s0 + s1) x6 x5 0 M) else (f_X10_costOf_88 N kh9 x1 x2 x3 (s0 + s1) x6 x5 1 M)
def f_X10_costOf_51 (N : Nat) (kh9 : Int32 → Int32 → Int32 → Int32 → Int32 → Int32 → gq_M → Option (Int32 × gq_M)) (x1 : Int32) (x2 : Int32) (x3 : Int32) (x4 : Int32) (x5 : Int32) (x6 : Int32) (s0 : Int32) (M : gq_M) : Option (Int32 × gq_M) :=
  if s0 = 0 then (f_X10_costOf_73 N kh9 x1 x2 x3 x5 x6 s0 x4 0 M) else (gq_g (gq_in x6 150) (gq_l (M 17 x6.toNatClampNeg) fun v11 => f_X10_costOf_73 N kh9 x1 x2 x3 x5 x6 s0 x4 (v11 * x3) M))
def f_X10_costOf_50 (N : Nat) (kh9 : Int32 → Int32 → Int32 → Int32 → Int32 → Int32 → gq_M → Option (Int32 × gq_M)) (x1 : Int32) (x2 : Int32) (x3 : Int32) (x4 : Int32) (x5 : Int32) (x6 : Int32) (M : gq_M) : Option (Int32 × gq_M) :=
  f_X10_costOf_51 N kh9 x1 x2 x3 x4 x5 x6 0 M
def f_X10_costOf_9_b (N : Nat) (kh9 : Int32 → Int32 → Int32 → Int32 → Int32 → Int32 → gq_M → Option (Int32 × gq_M)) (x1 : Int32) (x2 : Int32) (x3 : Int32) (x4 : Int32) (x5 : Int32) (x6 : Int32) (M : gq_M) : Option (Int32 × gq_M) :=
  if (M 0 16) ≤ x6 then (some (x4, M)) else (gq_g (gq_in x6 150) (gq_l (M 26 x6.toNatClampNeg) fun v3 => if v3 = x1 then (gq_g (gq_in x6 150) (gq_l (M 19 x6.toNatClampNeg) fun v6 => if v6 = 2 then (if x2 ≤ x5 then (f_X10_costOf_50 N kh9 x1 x2 x3 x4 x5 x6 M) else (f_X10_costOf_51 N kh9 x1 x2 x3 x4 x5 x6 1 M)) else (f_X10_costOf_50 N kh9 x1 x2 x3 x4 x5 x6 M))) else (f_X10_costOf_50 N kh9 x1 x2 x3 x4 x5 x6 M)))
def f_X10_costOf_9 (N : Nat) : Nat → Int32 → Int32 → Int32 → Int32 → Int32 → Int32 → gq_M → Option (Int32 × gq_M)
  | 0 => fun _ _ _ _ _ _ _ => none
  | n9 + 1 => f_X10_costOf_9_b N  (f_X10_costOf_9 N  n9)
def f_X10_costOf (N : Nat) (a1 : Int32) (a2 : Int32) (a3 : Int32) (M : gq_M) : Option (Int32 × gq_M) :=
  f_X10_costOf_9 N  N a1 a2 a3 0 0 0 M
def f_X10_gets_2_b (N : Nat) (kh2 : Int32 → Int32 → Int32 → gq_M → Option (Int32 × gq_M)) (x1 : Int32) (x2 : Int32) (x3 : Int32) (M : gq_M) : Option (Int32 × gq_M) :=
  if x2 ≤ x3 then (gq_g (gq_in x1 3) (gq_l (M 36 x1.toNatClampNeg) fun v3 => gq_b (f_X10_leftOf N v3 M) fun v4 M5 => if v4 = 0 then (gq_b (f_X10_ends N x1 M5) fun v15 M16 => some (0, M16)) else (gq_g (gq_in x1 3) (gq_l (gq_up M5 35 x1.toNatClampNeg 1) fun M9 => gq_g (gq_in x1 3) (gq_l (gq_up M9 39 x1.toNatClampNeg (-1)) fun M11 => gq_b (f_X10_begins N x1 M11) fun v12 M13 => some (0, M13)))))) else (gq_g (gq_in x1 3) (gq_l (M 36 x1.toNatClampNeg) fun v19 => gq_b (f_X10_firstOf N v19 M) fun v20 M21 => gq_g (gq_in v20 150) (gq_l (gq_up M21 19 v20.toNatClampNeg 3) fun M24 => gq_g (gq_in x1 3) (gq_l (M24 39 x1.toNatClampNeg) fun v26 => gq_g (gq_in v20 150) (gq_l (gq_up M24 21 v20.toNatClampNeg v26) fun M28 => gq_g (gq_in x1 3) (gq_l (M28 37 x1.toNatClampNeg) fun v30 => gq_g (gq_in v20 150) (gq_l (gq_up M28 22 v20.toNatClampNeg v30) fun M32 => gq_g (gq_in v20 150) (gq_l (gq_up M32 23 v20.toNatClampNeg (M32 0 0)) fun M34 => gq_g (gq_in v20 150) (gq_l (gq_up M34 24 v20.toNatClampNeg (M34 0 1)) fun M36 => gq_g (gq_in x1 3) (gq_l (M36 39 x1.toNatClampNeg) fun v38 => gq_g (gq_in v38 8) (gq_l (M36 11 v38.toNatClampNeg) fun v40 => gq_g (gq_in v20 150) (gq_l (M36 17 v20.toNatClampNeg) fun v42 => gq_g (gq_in x1 3) (gq_l (M36 37 x1.toNatClampNeg) fun v44 => gq_g (gq_in v38 8) (gq_l (gq_up M36 11 v38.toNatClampNeg (v40 + (v42 * v44))) fun M46 => gq_g (gq_in v20 150) (gq_l (M46 13 v20.toNatClampNeg) fun v48 => gq_g (gq_in v48 8) (gq_l (M46 5 v48.toNatClampNeg) fun v50 => gq_g (gq_in v20 150) (gq_l (M46 17 v20.toNatClampNeg) fun v52 => gq_g (gq_in x1 3) (gq_l (M46 37 x1.toNatClampNeg) fun v54 => gq_g (gq_in v48 8) (gq_l (gq_up M46 5 v48.toNatClampNeg (v50 + (v52 * v54))) fun M56 => kh2 x1 x2 (x3 + 1) M56)))))))))))))))))))
def f_X10_gets_2 (N : Nat) : Nat → Int32 → Int32 → Int32 → gq_M → Option (Int32 × gq_M)
  | 0 => fun _ _ _ _ => none
  | n9 + 1 => f_X10_gets_2_b N  (f_X10_gets_2 N  n9)
def f_X10_gets (N : Nat) (a1 : Int32) (a2 : Int32) (M : gq_M) : Option (Int32 × gq_M) :=
  f_X10_gets_2 N  N a1 a2 0 M
def f_X10_take_137 (N : Nat) (x2 : Int32) (x3 : Int32) (s1 : Int32) (M : gq_M) : Option (Int32 × gq_M) :=
  gq_b (f_X10_fails N s1 M) fun v42 M43 => if v42 = 0 then (gq_g (gq_in x2 3) (gq_l (M43 36 x2.toNatClampNeg) fun v47 => gq_g (gq_in x2 3) (gq_l (M43 37 x2.toNatClampNeg) fun v49 => gq_b (f_X10_costOf N v47 x3 v49 M43) fun v50 M51 => gq_b (f_X10_gets N x2 x3 M51) fun v53 M54 => some (v50, M54)))) else (some (0, M43))
def f_X10_take_115 (N : Nat) (x2 : Int32) (x3 : Int32) (x4 : Int32) (s0 : Int32) (M : gq_M) : Option (Int32 × gq_M) :=
  if x4 = 0 then (f_X10_take_137 N  x2 x3 1 M) else (if s0 = 0 then (f_X10_take_137 N  x2 x3 2 M) else (f_X10_take_137 N  x2 x3 0 M))
def f_X10_take_114 (N : Nat) (x2 : Int32) (x3 : Int32) (x4 : Int32) (M : gq_M) : Option (Int32 × gq_M) :=
  f_X10_take_115 N  x2 x3 x4 0 M
def f_X10_take_60 (N : Nat) (x1 : Int32) (x2 : Int32) (x3 : Int32) (x4 : Int32) (s0 : Int32) (M : gq_M) : Option (Int32 × gq_M) :=
  if s0 = 0 then (f_X10_take_114 N  x2 x3 x4 M) else (gq_g (gq_in x2 3) (gq_l (M 36 x2.toNatClampNeg) fun v21 => gq_b (f_X10_leftOf N v21 M) fun v22 M23 => gq_b (f_X10_isIn N x3 1 v22 M23) fun v25 M26 => if v25 = 0 then (f_X10_take_114 N  x2 x3 x4 M26) else (gq_g (gq_in x2 3) (gq_l (M26 36 x2.toNatClampNeg) fun v30 => gq_g (gq_in x2 3) (gq_l (M26 37 x2.toNatClampNeg) fun v32 => gq_b (f_X10_costOf N v30 x3 v32 M26) fun v33 M34 => gq_b (f_X10_canPay N x1 v33 M34) fun v36 M37 => if v36 = 0 then (f_X10_take_114 N  x2 x3 x4 M37) else (f_X10_take_115 N  x2 x3 x4 1 M37))))))
def f_X10_take_59 (N : Nat) (x1 : Int32) (x2 : Int32) (x3 : Int32) (x4 : Int32) (M : gq_M) : Option (Int32 × gq_M) :=
  f_X10_take_60 N  x1 x2 x3 x4 0 M
def f_X10_take_19 (N : Nat) (x1 : Int32) (x2 : Int32) (x3 : Int32) (s0 : Int32) (M : gq_M) : Option (Int32 × gq_M) :=
  if s0 = 0 then (f_X10_take_59 N  x1 x2 x3 s0 M) else (gq_g (gq_in x2 3) (gq_l (M 35 x2.toNatClampNeg) fun v11 => if v11 = 3 then (gq_g (gq_in x2 3) (gq_l (M 34 x2.toNatClampNeg) fun v14 => if v14 = 0 then (f_X10_take_59 N  x1 x2 x3 s0 M) else (gq_g (gq_in x2 3) (gq_l (M 39 x2.toNatClampNeg) fun v17 => if v17 = x1 then (f_X10_take_60 N  x1 x2 x3 s0 1 M) else (f_X10_take_59 N  x1 x2 x3 s0 M))))) else (f_X10_take_59 N  x1 x2 x3 s0 M)))
def f_X10_take_18 (N : Nat) (x1 : Int32) (x2 : Int32) (x3 : Int32) (M : gq_M) : Option (Int32 × gq_M) :=
  f_X10_take_19 N  x1 x2 x3 0 M
def f_X10_take (N : Nat) (a1 : Int32) (a2 : Int32) (a3 : Int32) (M : gq_M) : Option (Int32 × gq_M) :=
  gq_b (f_X10_isEight N a1 M) fun v1 M2 => if v1 = 0 then (f_X10_take_18 N  a1 a2 a3 M2) else (gq_b (f_X10_isHall N a2 M2) fun v5 M6 => if v5 = 0 then (f_X10_take_18 N  a1 a2 a3 M6) else (f_X10_take_19 N  a1 a2 a3 1 M6))
def f_X10_hears_59 (N : Nat) (kh7 : Int32 → Int32 → Int32 → gq_M → Option (Int32 × gq_M)) (x1 : Int32) (x2 : Int32) (x3 : Int32) (M : gq_M) : Option (Int32 × gq_M) :=
  kh7 x1 x2 (x3 + 1) M
def f_X10_hears_7_b (N : Nat) (kh7 : Int32 → Int32 → Int32 → gq_M → Option (Int32 × gq_M)) (x1 : Int32) (x2 : Int32) (x3 : Int32) (M : gq_M) : Option (Int32 × gq_M) :=
  if ((8 * x1) + 8) ≤ x3 then (gq_g (gq_bb x2) (some (x2, M))) else (gq_g (gq_in x3 24) (gq_l (M 40 x3.toNatClampNeg) fun v4 => if v4 = (-1) then (f_X10_hears_59 N kh7 x1 x2 x3 M) else (gq_g (gq_in x3 24) (gq_l (M 43 x3.toNatClampNeg) fun v7 => if v7 = 0 then (gq_g (gq_in x3 24) (gq_l (M 41 x3.toNatClampNeg) fun v10 => if (M 0 0) < v10 then (f_X10_hears_59 N kh7 x1 x2 x3 M) else (gq_g (gq_in x3 24) (gq_l (gq_up M 43 x3.toNatClampNeg 1) fun M13 => f_X10_hears_59 N kh7 x1 1 x3 M13)))) else (f_X10_hears_59 N kh7 x1 x2 x3 M)))))
def f_X10_hears_7 (N : Nat) : Nat → Int32 → Int32 → Int32 → gq_M → Option (Int32 × gq_M)
  | 0 => fun _ _ _ _ => none
  | n9 + 1 => f_X10_hears_7_b N  (f_X10_hears_7 N  n9)
def f_X10_hears (N : Nat) (a1 : Int32) (M : gq_M) : Option (Int32 × gq_M) :=
  f_X10_hears_7 N  N a1 0 (8 * a1) M
def f_X10_slowest_30 (N : Nat) (kh4 : Int32 → Int32 → gq_M → Option (Int32 × gq_M)) (x2 : Int32) (s0 : Int32) (M : gq_M) : Option (Int32 × gq_M) :=
  kh4 s0 (x2 + 1) M
def f_X10_slowest_4_b (N : Nat) (kh4 : Int32 → Int32 → gq_M → Option (Int32 × gq_M)) (x1 : Int32) (x2 : Int32) (M : gq_M) : Option (Int32 × gq_M) :=
  if 8 ≤ x2 then (some (x1, M)) else (gq_g (gq_in x2 8) (gq_l (M 10 x2.toNatClampNeg) fun v3 => if v3 ≤ x1 then (f_X10_slowest_30 N kh4 x2 x1 M) else (gq_g (gq_in x2 8) (gq_l (M 10 x2.toNatClampNeg) fun v6 => f_X10_slowest_30 N kh4 x2 v6 M))))
def f_X10_slowest_4 (N : Nat) : Nat → Int32 → Int32 → gq_M → Option (Int32 × gq_M)
  | 0 => fun _ _ _ => none
  | n9 + 1 => f_X10_slowest_4_b N  (f_X10_slowest_4 N  n9)
def f_X10_slowest (N : Nat) (M : gq_M) : Option (Int32 × gq_M) :=
  f_X10_slowest_4 N  N 0 0 M
def f_X10_falls (N : Nat) (a1 : Int32) (M : gq_M) : Option (Int32 × gq_M) :=
  gq_b (f_X10_hears N a1 M) fun v1 M2 => if v1 = 0 then (gq_g (gq_in a1 3) (gq_l (M2 36 a1.toNatClampNeg) fun v6 => gq_g (gq_in a1 3) (gq_l (M2 37 a1.toNatClampNeg) fun v8 => gq_g (gq_in a1 3) (gq_l (M2 33 a1.toNatClampNeg) fun v10 => gq_g (gq_in a1 3) (gq_l (gq_up M2 37 a1.toNatClampNeg (v8 - v10)) fun M12 => gq_g (gq_in a1 3) (gq_l (M12 37 a1.toNatClampNeg) fun v14 => gq_g (gq_in v6 150) (gq_l (M12 28 v6.toNatClampNeg) fun v16 => gq_g (gq_in v16 4) (gq_l (M12 7 v16.toNatClampNeg) fun v18 => gq_g (gq_in v6 150) (gq_l (M12 29 v6.toNatClampNeg) fun v20 => if ((v18 * (10 + v20)) / 10) ≤ v14 then (some (0, M12)) else (gq_b (f_X10_withdrawsAll N v6 M12) fun v22 M23 => gq_b (f_X10_ends N a1 M23) fun v25 M26 => some (0, M26))))))))))) else (gq_g (gq_in a1 3) (gq_l (gq_up M2 35 a1.toNatClampNeg 2) fun M29 => gq_b (f_X10_slowest N  M29) fun v30 M31 => gq_g (gq_in a1 3) (gq_l (gq_up M31 38 a1.toNatClampNeg ((M29 0 0) + v30)) fun M34 => some (0, M34))))
def f_X10_isBefore_56 (N : Nat) (s0 : Int32) (M : gq_M) : Option (Int32 × gq_M) :=
  gq_g (gq_bb s0) (some (s0, M))
def f_X10_isBefore_35 (N : Nat) (s0 : Int32) (M : gq_M) : Option (Int32 × gq_M) :=
  gq_g (gq_bb s0) (some (s0, M))
def f_X10_isBefore (N : Nat) (a1 : Int32) (a2 : Int32) (M : gq_M) : Option (Int32 × gq_M) :=
  gq_g (gq_in a1 24) (gq_l (M 42 a1.toNatClampNeg) fun v2 => gq_g (gq_in a2 24) (gq_l (M 42 a2.toNatClampNeg) fun v4 => if v2 = v4 then (gq_g (gq_in a1 24) (gq_l (M 40 a1.toNatClampNeg) fun v7 => gq_g (gq_in a2 24) (gq_l (M 40 a2.toNatClampNeg) fun v9 => if v9 ≤ v7 then (f_X10_isBefore_56 N  0 M) else (f_X10_isBefore_56 N  1 M)))) else (gq_g (gq_in a1 24) (gq_l (M 42 a1.toNatClampNeg) fun v12 => gq_g (gq_in a2 24) (gq_l (M 42 a2.toNatClampNeg) fun v14 => if v12 ≤ v14 then (f_X10_isBefore_35 N  0 M) else (f_X10_isBefore_35 N  1 M))))))
def f_X10_stands_187 (N : Nat) (x1 : Int32) (s1 : Int32) (s2 : Int32) (M : gq_M) : Option (Int32 × gq_M) :=
  gq_g (gq_in s1 3) (gq_l (gq_up M 37 s1.toNatClampNeg s2) fun M42 => gq_g (gq_in x1 3) (gq_l (gq_up M42 38 x1.toNatClampNeg ((M42 0 0) + 3)) fun M44 => gq_b (f_X10_begins N x1 M44) fun v45 M46 => some (0, M46)))
def f_X10_stands_161 (N : Nat) (x1 : Int32) (x3 : Int32) (s1 : Int32) (s2 : Int32) (M : gq_M) : Option (Int32 × gq_M) :=
  gq_g (gq_in s1 3) (gq_l (gq_up M 39 s1.toNatClampNeg s2) fun M35 => if x3 = (-1) then (gq_g (gq_in x1 3) (gq_l (M35 37 x1.toNatClampNeg) fun v40 => f_X10_stands_187 N  x1 x1 v40 M35)) else (gq_g (gq_in x3 24) (gq_l (M35 42 x3.toNatClampNeg) fun v38 => f_X10_stands_187 N  x1 x1 v38 M35)))
def f_X10_stands_142 (N : Nat) (x1 : Int32) (x3 : Int32) (s1 : Int32) (s2 : Int32) (M : gq_M) : Option (Int32 × gq_M) :=
  gq_g (gq_in s1 3) (gq_l (gq_up M 35 s1.toNatClampNeg s2) fun M32 => if x3 = (-1) then (f_X10_stands_161 N  x1 x3 x1 (-1) M32) else (f_X10_stands_161 N  x1 x3 x1 (x3 - x3 / 8 * 8) M32))
def f_X10_stands_120 (N : Nat) (kh44 : Int32 → Int32 → Int32 → Int32 → gq_M → Option (Int32 × gq_M)) (x1 : Int32) (x2 : Int32) (x4 : Int32) (s0 : Int32) (M : gq_M) : Option (Int32 × gq_M) :=
  kh44 x1 x2 s0 (x4 + 1) M
def f_X10_stands_119 (N : Nat) (kh44 : Int32 → Int32 → Int32 → Int32 → gq_M → Option (Int32 × gq_M)) (x1 : Int32) (x2 : Int32) (x3 : Int32) (x4 : Int32) (M : gq_M) : Option (Int32 × gq_M) :=
  f_X10_stands_120 N kh44 x1 x2 x4 x3 M
def f_X10_stands_114 (N : Nat) (kh44 : Int32 → Int32 → Int32 → Int32 → gq_M → Option (Int32 × gq_M)) (x1 : Int32) (x2 : Int32) (x4 : Int32) (M : gq_M) : Option (Int32 × gq_M) :=
  f_X10_stands_120 N kh44 x1 x2 x4 x4 M
def f_X10_stands_92 (N : Nat) (kh44 : Int32 → Int32 → Int32 → Int32 → gq_M → Option (Int32 × gq_M)) (x1 : Int32) (x2 : Int32) (x3 : Int32) (x4 : Int32) (s0 : Int32) (M : gq_M) : Option (Int32 × gq_M) :=
  if s0 = 0 then (f_X10_stands_119 N kh44 x1 x2 x3 x4 M) else (if x3 = (-1) then (f_X10_stands_114 N kh44 x1 x2 x4 M) else (gq_b (f_X10_isBefore N x4 x3 M) fun v27 M28 => if v27 = 0 then (f_X10_stands_119 N kh44 x1 x2 x3 x4 M28) else (f_X10_stands_114 N kh44 x1 x2 x4 M28)))
def f_X10_stands_91 (N : Nat) (kh44 : Int32 → Int32 → Int32 → Int32 → gq_M → Option (Int32 × gq_M)) (x1 : Int32) (x2 : Int32) (x3 : Int32) (x4 : Int32) (M : gq_M) : Option (Int32 × gq_M) :=
  f_X10_stands_92 N kh44 x1 x2 x3 x4 0 M
def f_X10_stands_44_b (N : Nat) (kh44 : Int32 → Int32 → Int32 → Int32 → gq_M → Option (Int32 × gq_M)) (x1 : Int32) (x2 : Int32) (x3 : Int32) (x4 : Int32) (M : gq_M) : Option (Int32 × gq_M) :=
  if ((8 * x1) + 8) ≤ x4 then (if x3 = (-1) then (f_X10_stands_142 N  x1 x3 x1 1 M) else (f_X10_stands_142 N  x1 x3 x1 3 M)) else (gq_g (gq_in x4 24) (gq_l (M 43 x4.toNatClampNeg) fun v17 => if v17 = 0 then (f_X10_stands_91 N kh44 x1 x2 x3 x4 M) else (gq_g (gq_in x4 24) (gq_l (M 42 x4.toNatClampNeg) fun v20 => gq_b (f_X10_canPay N (x4 - x4 / 8 * 8) (x2 * v20) M) fun v21 M22 => if v21 = 0 then (f_X10_stands_91 N kh44 x1 x2 x3 x4 M22) else (f_X10_stands_92 N kh44 x1 x2 x3 x4 1 M22)))))
def f_X10_stands_44 (N : Nat) : Nat → Int32 → Int32 → Int32 → Int32 → gq_M → Option (Int32 × gq_M)
  | 0 => fun _ _ _ _ _ => none
  | n9 + 1 => f_X10_stands_44_b N  (f_X10_stands_44 N  n9)
def f_X10_stands (N : Nat) (a1 : Int32) (M : gq_M) : Option (Int32 × gq_M) :=
  gq_b (f_X10_hears N a1 M) fun v1 M2 => gq_g (gq_in a1 3) (gq_l (M2 38 a1.toNatClampNeg) fun v5 => if v5 ≤ (M2 0 0) then (gq_g (gq_in a1 3) (gq_l (M2 36 a1.toNatClampNeg) fun v8 => gq_b (f_X10_firstOf N v8 M2) fun v9 M10 => gq_g (gq_in v9 150) (gq_l (M10 17 v9.toNatClampNeg) fun v13 => f_X10_stands_44 N  N a1 v13 (-1) (8 * a1) M10))) else (some (0, M2)))
def f_X10_waits_50 (N : Nat) (s1 : Int32) (s2 : Int32) (M : gq_M) : Option (Int32 × gq_M) :=
  gq_b (f_X10_gets N s1 s2 M) fun v17 M18 => some (0, M18)
def f_X10_waits (N : Nat) (a1 : Int32) (M : gq_M) : Option (Int32 × gq_M) :=
  gq_g (gq_in a1 3) (gq_l (M 38 a1.toNatClampNeg) fun v2 => if (M 0 0) < v2 then (some (0, M)) else (gq_g (gq_in a1 3) (gq_l (M 39 a1.toNatClampNeg) fun v5 => gq_g (gq_in a1 3) (gq_l (M 36 a1.toNatClampNeg) fun v7 => gq_g (gq_in a1 3) (gq_l (M 37 a1.toNatClampNeg) fun v9 => gq_b (f_X10_costOf N v7 1 v9 M) fun v10 M11 => gq_b (f_X10_canPay N v5 v10 M11) fun v13 M14 => if v13 = 0 then (f_X10_waits_50 N  a1 0 M14) else (f_X10_waits_50 N  a1 1 M14))))))
def f_X10_leaves_57 (N : Nat) (kh4 : Int32 → Int32 → Int32 → gq_M → Option (Int32 × gq_M)) (x1 : Int32) (x2 : Int32) (x3 : Int32) (M : gq_M) : Option (Int32 × gq_M) :=
  kh4 x1 x2 (x3 + 1) M
def f_X10_leaves_4_b (N : Nat) (kh4 : Int32 → Int32 → Int32 → gq_M → Option (Int32 × gq_M)) (x1 : Int32) (x2 : Int32) (x3 : Int32) (M : gq_M) : Option (Int32 × gq_M) :=
  if (M 0 16) ≤ x3 then (gq_g (gq_in x1 20) (gq_l (gq_up M 47 x1.toNatClampNeg x2) fun M3 => some (0, M3))) else (gq_g (gq_in x3 150) (gq_l (M 19 x3.toNatClampNeg) fun v5 => if v5 = 3 then (gq_g (gq_in x3 150) (gq_l (M 21 x3.toNatClampNeg) fun v8 => gq_g (gq_in x1 20) (gq_l (M 44 x1.toNatClampNeg) fun v10 => if v8 = v10 then (gq_g (gq_in x1 20) (gq_l (M 46 x1.toNatClampNeg) fun v13 => if v13 ≤ x2 then (f_X10_leaves_57 N kh4 x1 x2 x3 M) else (gq_g (gq_in x3 150) (gq_l (gq_up M 19 x3.toNatClampNeg 4) fun M16 => f_X10_leaves_57 N kh4 x1 (x2 + 1) x3 M16)))) else (f_X10_leaves_57 N kh4 x1 x2 x3 M)))) else (f_X10_leaves_57 N kh4 x1 x2 x3 M)))
def f_X10_leaves_4 (N : Nat) : Nat → Int32 → Int32 → Int32 → gq_M → Option (Int32 × gq_M)
  | 0 => fun _ _ _ _ => none
  | n9 + 1 => f_X10_leaves_4_b N  (f_X10_leaves_4 N  n9)
def f_X10_leaves (N : Nat) (a1 : Int32) (M : gq_M) : Option (Int32 × gq_M) :=
  f_X10_leaves_4 N  N a1 0 0 M
def f_X10_passes_107 (N : Nat) (kh81 : Int32 → gq_M → Option (Int32 × gq_M)) (x1 : Int32) (M : gq_M) : Option (Int32 × gq_M) :=
  kh81 (x1 + 1) M
def f_X10_passes_81_b (N : Nat) (kh81 : Int32 → gq_M → Option (Int32 × gq_M)) (x1 : Int32) (M : gq_M) : Option (Int32 × gq_M) :=
  if (M 0 49) ≤ x1 then (some (0, M)) else (gq_g (gq_in x1 20) (gq_l (M 45 x1.toNatClampNeg) fun v22 => if v22 = (M 0 0) then (gq_b (f_X10_leaves N x1 M) fun v24 M25 => f_X10_passes_107 N kh81 x1 M25) else (f_X10_passes_107 N kh81 x1 M)))
def f_X10_passes_81 (N : Nat) : Nat → Int32 → gq_M → Option (Int32 × gq_M)
  | 0 => fun _ _ => none
  | n9 + 1 => f_X10_passes_81_b N  (f_X10_passes_81 N  n9)
def f_X10_passes_73 (N : Nat) (kh12 : Int32 → gq_M → Option (Int32 × gq_M)) (x1 : Int32) (M : gq_M) : Option (Int32 × gq_M) :=
  kh12 (x1 + 1) M
def f_X10_passes_36 (N : Nat) (kh12 : Int32 → gq_M → Option (Int32 × gq_M)) (x1 : Int32) (s0 : Int32) (M : gq_M) : Option (Int32 × gq_M) :=
  if s0 = 1 then (gq_b (f_X10_falls N x1 M) fun v17 M18 => f_X10_passes_73 N kh12 x1 M18) else (if s0 = 2 then (gq_b (f_X10_stands N x1 M) fun v14 M15 => f_X10_passes_73 N kh12 x1 M15) else (if s0 = 3 then (gq_b (f_X10_waits N x1 M) fun v11 M12 => f_X10_passes_73 N kh12 x1 M12) else (f_X10_passes_73 N kh12 x1 M)))
def f_X10_passes_12_b (N : Nat) (kh12 : Int32 → gq_M → Option (Int32 × gq_M)) (x1 : Int32) (M : gq_M) : Option (Int32 × gq_M) :=
  if 3 ≤ x1 then (f_X10_passes_81 N  N 0 M) else (gq_g (gq_in x1 3) (gq_l (M 34 x1.toNatClampNeg) fun v4 => if v4 = 0 then (f_X10_passes_36 N kh12 x1 0 M) else (gq_g (gq_in x1 3) (gq_l (M 35 x1.toNatClampNeg) fun v7 => f_X10_passes_36 N kh12 x1 v7 M))))
def f_X10_passes_12 (N : Nat) : Nat → Int32 → gq_M → Option (Int32 × gq_M)
  | 0 => fun _ _ => none
  | n9 + 1 => f_X10_passes_12_b N  (f_X10_passes_12 N  n9)
def f_X10_passes (N : Nat) (M : gq_M) : Option (Int32 × gq_M) :=
  gq_l (gq_up M 0 0 ((M 0 0) + 1)) fun M1 => f_X10_passes_12 N  N 0 M1
def f_X10_pass_42_b (N : Nat) (kh42 : Int32 → Int32 → gq_M → Option (Int32 × gq_M)) (x1 : Int32) (x2 : Int32) (M : gq_M) : Option (Int32 × gq_M) :=
  if x1 ≤ x2 then (some ((M 0 0), M)) else (gq_b (f_X10_passes N  M) fun v11 M12 => kh42 x1 (x2 + 1) M12)
def f_X10_pass_42 (N : Nat) : Nat → Int32 → Int32 → gq_M → Option (Int32 × gq_M)
  | 0 => fun _ _ _ => none
  | n9 + 1 => f_X10_pass_42_b N  (f_X10_pass_42 N  n9)
def f_X10_pass_32 (N : Nat) (x1 : Int32) (s1 : Int32) (M : gq_M) : Option (Int32 × gq_M) :=
  gq_b (f_X10_fails N s1 M) fun v6 M7 => if v6 = 0 then (f_X10_pass_42 N  N x1 0 M7) else (some (0, M7))
def f_X10_pass (N : Nat) (a1 : Int32) (M : gq_M) : Option (Int32 × gq_M) :=
  gq_b (f_X10_isIn N a1 1 500 M) fun v1 M2 => if v1 = 0 then (f_X10_pass_32 N  a1 1 M2) else (if ((M2 0 0) + a1) ≤ 100000 then (f_X10_pass_32 N  a1 0 M2) else (f_X10_pass_32 N  a1 2 M2))
def f_X10_lorry_67 (N : Nat) (x1 : Int32) (x2 : Int32) (x3 : Int32) (s1 : Int32) (M : gq_M) : Option (Int32 × gq_M) :=
  gq_b (f_X10_fails N s1 M) fun v15 M16 => if v15 = 0 then (gq_g (gq_in (M16 0 49) 20) (gq_l (gq_up M16 44 ((M16 0 49) : Int32).toNatClampNeg x1) fun M20 => gq_g (gq_in (M20 0 49) 20) (gq_l (gq_up M20 45 ((M20 0 49) : Int32).toNatClampNeg x2) fun M22 => gq_g (gq_in (M22 0 49) 20) (gq_l (gq_up M22 46 ((M22 0 49) : Int32).toNatClampNeg x3) fun M24 => gq_g (gq_in (M24 0 49) 20) (gq_l (gq_up M24 47 ((M24 0 49) : Int32).toNatClampNeg (-1)) fun M26 => gq_l (gq_up M26 0 49 ((M26 0 49) + 1)) fun M27 => some (((M27 0 49) - 1), M27)))))) else (some (0, M16))
def f_X10_lorry_30 (N : Nat) (x1 : Int32) (x2 : Int32) (x3 : Int32) (s0 : Int32) (M : gq_M) : Option (Int32 × gq_M) :=
  gq_b (f_X10_isEight N x1 M) fun v9 M10 => if v9 = 0 then (f_X10_lorry_67 N  x1 x2 x3 1 M10) else (if s0 = 0 then (f_X10_lorry_67 N  x1 x2 x3 2 M10) else (if (M10 0 49) = 20 then (f_X10_lorry_67 N  x1 x2 x3 3 M10) else (f_X10_lorry_67 N  x1 x2 x3 0 M10)))
def f_X10_lorry_29 (N : Nat) (x1 : Int32) (x2 : Int32) (x3 : Int32) (M : gq_M) : Option (Int32 × gq_M) :=
  f_X10_lorry_30 N  x1 x2 x3 0 M
def f_X10_lorry (N : Nat) (a1 : Int32) (a2 : Int32) (a3 : Int32) (M : gq_M) : Option (Int32 × gq_M) :=
  gq_b (f_X10_isIn N a2 ((M 0 0) + 1) 100000 M) fun v1 M2 => if v1 = 0 then (f_X10_lorry_29 N  a1 a2 a3 M2) else (gq_b (f_X10_isIn N a3 1 50 M2) fun v5 M6 => if v5 = 0 then (f_X10_lorry_29 N  a1 a2 a3 M6) else (f_X10_lorry_30 N  a1 a2 a3 1 M6))
def f_X10_areCents (N : Nat) (a0 : Int32) (M : gq_M) : Option (Int32 × gq_M) :=
  gq_b (f_X10_isIn N a0 1 100000000 M) fun v1 M2 => gq_g (gq_bb v1) (some (v1, M2))
def f_X10_pay_62 (N : Nat) (x1 : Int32) (s0 : Int32) (M : gq_M) : Option (Int32 × gq_M) :=
  gq_g (gq_in x1 8) (gq_l (M 11 x1.toNatClampNeg) fun v20 => gq_g (gq_in x1 8) (gq_l (gq_up M 11 x1.toNatClampNeg (v20 - s0)) fun M22 => some (s0, M22)))
def f_X10_pay_52 (N : Nat) (x1 : Int32) (s0 : Int32) (M : gq_M) : Option (Int32 × gq_M) :=
  if 0 ≤ s0 then (f_X10_pay_62 N  x1 s0 M) else (f_X10_pay_62 N  x1 0 M)
def f_X10_pay_24 (N : Nat) (x1 : Int32) (x2 : Int32) (s1 : Int32) (M : gq_M) : Option (Int32 × gq_M) :=
  gq_b (f_X10_fails N s1 M) fun v9 M10 => if v9 = 0 then (gq_g (gq_in x1 8) (gq_l (M10 11 x1.toNatClampNeg) fun v14 => if x2 ≤ v14 then (f_X10_pay_52 N  x1 x2 M10) else (gq_g (gq_in x1 8) (gq_l (M10 11 x1.toNatClampNeg) fun v17 => f_X10_pay_52 N  x1 v17 M10)))) else (some (0, M10))
def f_X10_pay (N : Nat) (a1 : Int32) (a2 : Int32) (M : gq_M) : Option (Int32 × gq_M) :=
  gq_b (f_X10_isEight N a1 M) fun v1 M2 => if v1 = 0 then (f_X10_pay_24 N  a1 a2 1 M2) else (gq_b (f_X10_areCents N a2 M2) fun v5 M6 => if v5 = 0 then (f_X10_pay_24 N  a1 a2 2 M6) else (f_X10_pay_24 N  a1 a2 0 M6))
def f_X10_claim_130 (N : Nat) (x1 : Int32) (x2 : Int32) (s0 : Int32) (M : gq_M) : Option (Int32 × gq_M) :=
  gq_g (gq_in x1 8) (gq_l (M 11 x1.toNatClampNeg) fun v35 => gq_g (gq_in x1 8) (gq_l (gq_up M 11 x1.toNatClampNeg (v35 - s0)) fun M37 => gq_g (gq_in x2 150) (gq_l (M37 13 x2.toNatClampNeg) fun v39 => gq_g (gq_in v39 8) (gq_l (M37 5 v39.toNatClampNeg) fun v41 => gq_g (gq_in v39 8) (gq_l (gq_up M37 5 v39.toNatClampNeg (v41 - s0)) fun M43 => some (s0, M43))))))
def f_X10_claim_71 (N : Nat) (x1 : Int32) (x2 : Int32) (s1 : Int32) (M : gq_M) : Option (Int32 × gq_M) :=
  gq_b (f_X10_fails N s1 M) fun v19 M20 => if v19 = 0 then (gq_g (gq_in x2 150) (gq_l (gq_up M20 25 x2.toNatClampNeg 1) fun M24 => gq_g (gq_in x2 150) (gq_l (M24 17 x2.toNatClampNeg) fun v26 => gq_g (gq_in x2 150) (gq_l (M24 18 x2.toNatClampNeg) fun v28 => gq_g (gq_in x2 150) (gq_l (M24 17 x2.toNatClampNeg) fun v30 => if ((v26 - v28) * 100) ≤ (3 * v30) then (f_X10_claim_130 N  x1 x2 0 M24) else (gq_g (gq_in x2 150) (gq_l (M24 22 x2.toNatClampNeg) fun v33 => f_X10_claim_130 N  x1 x2 ((v26 - v28) * v33) M24))))))) else (some (0, M20))
def f_X10_claim_66 (N : Nat) (x1 : Int32) (x2 : Int32) (M : gq_M) : Option (Int32 × gq_M) :=
  f_X10_claim_71 N  x1 x2 2 M
def f_X10_claim_20 (N : Nat) (x1 : Int32) (x2 : Int32) (s0 : Int32) (M : gq_M) : Option (Int32 × gq_M) :=
  if s0 = 0 then (f_X10_claim_71 N  x1 x2 1 M) else (gq_g (gq_in x2 150) (gq_l (M 21 x2.toNatClampNeg) fun v11 => if v11 = x1 then (gq_g (gq_in x2 150) (gq_l (M 25 x2.toNatClampNeg) fun v14 => if v14 = 0 then (gq_g (gq_in x2 150) (gq_l (M 23 x2.toNatClampNeg) fun v17 => if (M 0 0) ≤ (v17 + 240) then (f_X10_claim_71 N  x1 x2 0 M) else (f_X10_claim_66 N  x1 x2 M))) else (f_X10_claim_66 N  x1 x2 M))) else (f_X10_claim_66 N  x1 x2 M)))
def f_X10_claim_19 (N : Nat) (x1 : Int32) (x2 : Int32) (M : gq_M) : Option (Int32 × gq_M) :=
  f_X10_claim_20 N  x1 x2 0 M
def f_X10_claim (N : Nat) (a1 : Int32) (a2 : Int32) (M : gq_M) : Option (Int32 × gq_M) :=
  gq_b (f_X10_isEight N a1 M) fun v1 M2 => if v1 = 0 then (f_X10_claim_19 N  a1 a2 M2) else (gq_b (f_X10_isBox N a2 M2) fun v5 M6 => if v5 = 0 then (f_X10_claim_19 N  a1 a2 M6) else (f_X10_claim_20 N  a1 a2 1 M6))
def f_X10_settle_124 (N : Nat) (s0 : Int32) (M : gq_M) : Option (Int32 × gq_M) :=
  some (s0, M)
def f_X10_settle_90 (N : Nat) (x1 : Int32) (x2 : Int32) (x3 : Int32) (s0 : Int64) (s1 : Int64) (M : gq_M) : Option (Int32 × gq_M) :=
  gq_g (gq_in x1 8) (gq_l (gq_up M 5 x1.toNatClampNeg 0) fun M22 => if 0 ≤ (lg_cmp ((s0 - s1) - (x2 : Int32).toInt64) 0) then (gq_l (((s0 - s1) - (x2 : Int32).toInt64) * (x3 : Int32).toInt64) fun v24 => f_X10_settle_124 N  ((v24 / 100) : Int64).toInt32 M22) else (f_X10_settle_124 N  0 M22))
def f_X10_settle_50 (N : Nat) (x1 : Int32) (x2 : Int32) (x3 : Int32) (s1 : Int32) (M : gq_M) : Option (Int32 × gq_M) :=
  gq_b (f_X10_fails N s1 M) fun v14 M15 => if v14 = 0 then (gq_g (gq_in x1 8) (gq_l (M15 5 x1.toNatClampNeg) fun v19 => if 0 ≤ (lg_cmp (v19 : Int32).toInt64 0) then (f_X10_settle_90 N  x1 x2 x3 (v19 : Int32).toInt64 (((v19 : Int32).toInt64 * 3) / 100) M15) else (f_X10_settle_90 N  x1 x2 x3 (v19 : Int32).toInt64 0 M15))) else (some (0, M15))
def f_X10_settle_26 (N : Nat) (x1 : Int32) (x2 : Int32) (x3 : Int32) (s0 : Int32) (M : gq_M) : Option (Int32 × gq_M) :=
  gq_b (f_X10_isEight N x1 M) fun v9 M10 => if v9 = 0 then (f_X10_settle_50 N  x1 x2 x3 1 M10) else (if s0 = 0 then (f_X10_settle_50 N  x1 x2 x3 2 M10) else (f_X10_settle_50 N  x1 x2 x3 0 M10))
def f_X10_settle_25 (N : Nat) (x1 : Int32) (x2 : Int32) (x3 : Int32) (M : gq_M) : Option (Int32 × gq_M) :=
  f_X10_settle_26 N  x1 x2 x3 0 M
def f_X10_settle (N : Nat) (a1 : Int32) (a2 : Int32) (a3 : Int32) (M : gq_M) : Option (Int32 × gq_M) :=
  gq_b (f_X10_isIn N a2 0 10000000 M) fun v1 M2 => if v1 = 0 then (f_X10_settle_25 N  a1 a2 a3 M2) else (gq_b (f_X10_isIn N a3 0 100 M2) fun v5 M6 => if v5 = 0 then (f_X10_settle_25 N  a1 a2 a3 M6) else (f_X10_settle_26 N  a1 a2 a3 1 M6))
def f_X10_now (N : Nat) (M : gq_M) : Option (Int32 × gq_M) :=
  gq_l (gq_up M 0 54 0) fun M1 => some ((M1 0 0), M1)
def f_X10_day (N : Nat) (M : gq_M) : Option (Int32 × gq_M) :=
  gq_l (gq_up M 0 54 0) fun M1 => some ((M1 0 1), M1)
def f_X10_isOpen (N : Nat) (M : gq_M) : Option (Int32 × gq_M) :=
  gq_l (gq_up M 0 54 0) fun M1 => gq_g (gq_bb (M1 0 2)) (some ((M1 0 2), M1))
def f_X10_told_96 (N : Nat) (s0 : Int32) (M : gq_M) : Option (Int32 × gq_M) :=
  some (s0, M)
def f_X10_told_27 (N : Nat) (x1 : Int32) (x2 : Int32) (s1 : Int32) (M : gq_M) : Option (Int32 × gq_M) :=
  gq_b (f_X10_fails N s1 M) fun v9 M10 => if v9 = 0 then (if x2 = 0 then (gq_g (gq_in x1 150) (gq_l (M10 19 x1.toNatClampNeg) fun v26 => f_X10_told_96 N  v26 M10)) else (if x2 = 1 then (gq_g (gq_in x1 150) (gq_l (M10 16 x1.toNatClampNeg) fun v24 => f_X10_told_96 N  v24 M10)) else (if x2 = 2 then (gq_g (gq_in x1 150) (gq_l (M10 21 x1.toNatClampNeg) fun v22 => f_X10_told_96 N  v22 M10)) else (if x2 = 3 then (gq_g (gq_in x1 150) (gq_l (M10 22 x1.toNatClampNeg) fun v20 => f_X10_told_96 N  v20 M10)) else (gq_g (gq_in x1 150) (gq_l (M10 26 x1.toNatClampNeg) fun v18 => f_X10_told_96 N  v18 M10)))))) else (some (0, M10))
def f_X10_told (N : Nat) (a1 : Int32) (a2 : Int32) (M : gq_M) : Option (Int32 × gq_M) :=
  gq_b (f_X10_isBox N a1 M) fun v1 M2 => if v1 = 0 then (f_X10_told_27 N  a1 a2 1 M2) else (gq_b (f_X10_isIn N a2 0 4 M2) fun v5 M6 => if v5 = 0 then (f_X10_told_27 N  a1 a2 2 M6) else (f_X10_told_27 N  a1 a2 0 M6))
def f_X10_lot_33 (N : Nat) (x1 : Int32) (x2 : Int32) (s1 : Int32) (M : gq_M) : Option (Int32 × gq_M) :=
  gq_b (f_X10_fails N s1 M) fun v9 M10 => if v9 = 0 then (if x2 = 0 then (gq_g (gq_in x1 150) (gq_l (M10 27 x1.toNatClampNeg) fun v15 => some (v15, M10))) else if x2 = 1 then (gq_g (gq_in x1 150) (gq_l (M10 28 x1.toNatClampNeg) fun v18 => some (v18, M10))) else if x2 = 2 then (gq_g (gq_in x1 150) (gq_l (M10 29 x1.toNatClampNeg) fun v21 => some (v21, M10))) else if x2 = 3 then (gq_g (gq_in x1 150) (gq_l (M10 30 x1.toNatClampNeg) fun v24 => some (v24, M10))) else if x2 = 4 then (gq_g (gq_in x1 150) (gq_l (M10 31 x1.toNatClampNeg) fun v27 => some (v27, M10))) else (gq_b (f_X10_leftOf N x1 M10) fun v28 M29 => some (v28, M29))) else (some (0, M10))
def f_X10_lot (N : Nat) (a1 : Int32) (a2 : Int32) (M : gq_M) : Option (Int32 × gq_M) :=
  gq_b (f_X10_isIn N a1 0 ((M 0 31) - 1) M) fun v1 M2 => if v1 = 0 then (f_X10_lot_33 N  a1 a2 1 M2) else (gq_b (f_X10_isIn N a2 0 5 M2) fun v5 M6 => if v5 = 0 then (f_X10_lot_33 N  a1 a2 2 M6) else (f_X10_lot_33 N  a1 a2 0 M6))
def f_X10_lotsOf_37 (N : Nat) (kh4 : Int32 → Int32 → Int32 → gq_M → Option (Int32 × gq_M)) (x1 : Int32) (x3 : Int32) (s0 : Int32) (s1 : Int32) (M : gq_M) : Option (Int32 × gq_M) :=
  kh4 x1 (s0 + s1) (x3 + 1) M
def f_X10_lotsOf_36 (N : Nat) (kh4 : Int32 → Int32 → Int32 → gq_M → Option (Int32 × gq_M)) (x1 : Int32) (x3 : Int32) (s0 : Int32) (M : gq_M) : Option (Int32 × gq_M) :=
  f_X10_lotsOf_37 N kh4 x1 x3 s0 0 M
def f_X10_lotsOf_4_b (N : Nat) (kh4 : Int32 → Int32 → Int32 → gq_M → Option (Int32 × gq_M)) (x1 : Int32) (x2 : Int32) (x3 : Int32) (M : gq_M) : Option (Int32 × gq_M) :=
  if (M 0 31) ≤ x3 then (some (x2, M)) else (gq_g (gq_in x3 150) (gq_l (M 31 x3.toNatClampNeg) fun v3 => if v3 = x1 then (gq_g (gq_in x3 150) (gq_l (M 32 x3.toNatClampNeg) fun v6 => if v6 = 0 then (f_X10_lotsOf_37 N kh4 x1 x3 x2 1 M) else (f_X10_lotsOf_36 N kh4 x1 x3 x2 M))) else (f_X10_lotsOf_36 N kh4 x1 x3 x2 M)))
def f_X10_lotsOf_4 (N : Nat) : Nat → Int32 → Int32 → Int32 → gq_M → Option (Int32 × gq_M)
  | 0 => fun _ _ _ _ => none
  | n9 + 1 => f_X10_lotsOf_4_b N  (f_X10_lotsOf_4 N  n9)
def f_X10_lotsOf (N : Nat) (a1 : Int32) (M : gq_M) : Option (Int32 × gq_M) :=
  f_X10_lotsOf_4 N  N a1 0 0 M
def f_X10_hall_94 (N : Nat) (s0 : Int32) (M : gq_M) : Option (Int32 × gq_M) :=
  some (s0, M)
def f_X10_hall_26 (N : Nat) (x1 : Int32) (x2 : Int32) (s1 : Int32) (M : gq_M) : Option (Int32 × gq_M) :=
  gq_b (f_X10_fails N s1 M) fun v9 M10 => if v9 = 0 then (if x2 = 0 then (gq_g (gq_in x1 3) (gq_l (M10 35 x1.toNatClampNeg) fun v27 => f_X10_hall_94 N  v27 M10)) else (if x2 = 1 then (gq_g (gq_in x1 3) (gq_l (M10 36 x1.toNatClampNeg) fun v25 => f_X10_hall_94 N  v25 M10)) else (if x2 = 2 then (gq_g (gq_in x1 3) (gq_l (M10 37 x1.toNatClampNeg) fun v23 => f_X10_hall_94 N  v23 M10)) else (if x2 = 3 then (gq_g (gq_in x1 3) (gq_l (M10 39 x1.toNatClampNeg) fun v21 => f_X10_hall_94 N  v21 M10)) else (gq_b (f_X10_lotsOf N x1 M10) fun v17 M18 => f_X10_hall_94 N  v17 M18))))) else (some (0, M10))
def f_X10_hall (N : Nat) (a1 : Int32) (a2 : Int32) (M : gq_M) : Option (Int32 × gq_M) :=
  gq_b (f_X10_isHall N a1 M) fun v1 M2 => if v1 = 0 then (f_X10_hall_26 N  a1 a2 1 M2) else (gq_b (f_X10_isIn N a2 0 4 M2) fun v5 M6 => if v5 = 0 then (f_X10_hall_26 N  a1 a2 2 M6) else (f_X10_hall_26 N  a1 a2 0 M6))
def f_X10_account_101 (N : Nat) (s0 : Int32) (M : gq_M) : Option (Int32 × gq_M) :=
  some (s0, M)
def f_X10_account_65 (N : Nat) (kh39 : Int32 → Int32 → Int32 → Int32 → gq_M → Option (Int32 × gq_M)) (x1 : Int32) (x2 : Int32) (x4 : Int32) (s0 : Int32) (s1 : Int32) (M : gq_M) : Option (Int32 × gq_M) :=
  kh39 x1 x2 (s0 + s1) (x4 + 1) M
def f_X10_account_39_b (N : Nat) (kh39 : Int32 → Int32 → Int32 → Int32 → gq_M → Option (Int32 × gq_M)) (x1 : Int32) (x2 : Int32) (x3 : Int32) (x4 : Int32) (M : gq_M) : Option (Int32 × gq_M) :=
  if (M 0 16) ≤ x4 then (if x2 = 0 then (gq_g (gq_in x1 8) (gq_l (M 9 x1.toNatClampNeg) fun v19 => f_X10_account_101 N  v19 M)) else (if x2 = 1 then (gq_g (gq_in x1 8) (gq_l (M 11 x1.toNatClampNeg) fun v17 => f_X10_account_101 N  v17 M)) else (f_X10_account_101 N  x3 M))) else (gq_g (gq_in x4 150) (gq_l (M 21 x4.toNatClampNeg) fun v21 => if v21 = x1 then (f_X10_account_65 N kh39 x1 x2 x4 x3 1 M) else (f_X10_account_65 N kh39 x1 x2 x4 x3 0 M)))
def f_X10_account_39 (N : Nat) : Nat → Int32 → Int32 → Int32 → Int32 → gq_M → Option (Int32 × gq_M)
  | 0 => fun _ _ _ _ _ => none
  | n9 + 1 => f_X10_account_39_b N  (f_X10_account_39 N  n9)
def f_X10_account_26 (N : Nat) (x1 : Int32) (x2 : Int32) (s1 : Int32) (M : gq_M) : Option (Int32 × gq_M) :=
  gq_b (f_X10_fails N s1 M) fun v9 M10 => if v9 = 0 then (f_X10_account_39 N  N x1 x2 0 0 M10) else (some (0, M10))
def f_X10_account (N : Nat) (a1 : Int32) (a2 : Int32) (M : gq_M) : Option (Int32 × gq_M) :=
  gq_b (f_X10_isEight N a1 M) fun v1 M2 => if v1 = 0 then (f_X10_account_26 N  a1 a2 1 M2) else (gq_b (f_X10_isIn N a2 0 2 M2) fun v5 M6 => if v5 = 0 then (f_X10_account_26 N  a1 a2 2 M6) else (f_X10_account_26 N  a1 a2 0 M6))
def f_X10_ship_95 (N : Nat) (s0 : Int32) (M : gq_M) : Option (Int32 × gq_M) :=
  some (s0, M)
def f_X10_ship_41_b (N : Nat) (kh41 : Int32 → Int32 → Int32 → Int32 → gq_M → Option (Int32 × gq_M)) (x1 : Int32) (x2 : Int32) (x3 : Int32) (x4 : Int32) (M : gq_M) : Option (Int32 × gq_M) :=
  if ((4 * x1) + 4) ≤ x4 then (if x2 = 0 then (gq_g (gq_in x1 8) (gq_l (M 5 x1.toNatClampNeg) fun v19 => f_X10_ship_95 N  v19 M)) else (if x2 = 1 then (gq_g (gq_in x1 8) (gq_l (M 3 x1.toNatClampNeg) fun v17 => f_X10_ship_95 N  v17 M)) else (f_X10_ship_95 N  x3 M))) else (gq_g (gq_in x4 32) (gq_l (M 2 x4.toNatClampNeg) fun v21 => kh41 x1 x2 (x3 + v21) (x4 + 1) M))
def f_X10_ship_41 (N : Nat) : Nat → Int32 → Int32 → Int32 → Int32 → gq_M → Option (Int32 × gq_M)
  | 0 => fun _ _ _ _ _ => none
  | n9 + 1 => f_X10_ship_41_b N  (f_X10_ship_41 N  n9)
def f_X10_ship_26 (N : Nat) (x1 : Int32) (x2 : Int32) (s1 : Int32) (M : gq_M) : Option (Int32 × gq_M) :=
  gq_b (f_X10_fails N s1 M) fun v9 M10 => if v9 = 0 then (f_X10_ship_41 N  N x1 x2 0 (4 * x1) M10) else (some (0, M10))
def f_X10_ship (N : Nat) (a1 : Int32) (a2 : Int32) (M : gq_M) : Option (Int32 × gq_M) :=
  gq_b (f_X10_isEight N a1 M) fun v1 M2 => if v1 = 0 then (f_X10_ship_26 N  a1 a2 1 M2) else (gq_b (f_X10_isIn N a2 0 2 M2) fun v5 M6 => if v5 = 0 then (f_X10_ship_26 N  a1 a2 2 M6) else (f_X10_ship_26 N  a1 a2 0 M6))
def f_X10_isOf_108 (N : Nat) (s0 : Int32) (M : gq_M) : Option (Int32 × gq_M) :=
  gq_g (gq_bb s0) (some (s0, M))
def f_X10_isOf_103 (N : Nat) (M : gq_M) : Option (Int32 × gq_M) :=
  f_X10_isOf_108 N  1 M
def f_X10_isOf_87 (N : Nat) (s0 : Int32) (M : gq_M) : Option (Int32 × gq_M) :=
  gq_g (gq_bb s0) (some (s0, M))
def f_X10_isOf_76 (N : Nat) (s0 : Int32) (M : gq_M) : Option (Int32 × gq_M) :=
  gq_g (gq_bb s0) (some (s0, M))
def f_X10_isOf_64 (N : Nat) (s0 : Int32) (M : gq_M) : Option (Int32 × gq_M) :=
  gq_g (gq_bb s0) (some (s0, M))
def f_X10_isOf_53 (N : Nat) (s0 : Int32) (M : gq_M) : Option (Int32 × gq_M) :=
  gq_g (gq_bb s0) (some (s0, M))
def f_X10_isOf_48 (N : Nat) (M : gq_M) : Option (Int32 × gq_M) :=
  f_X10_isOf_53 N  1 M
def f_X10_isOf (N : Nat) (a0 : Int32) (a1 : Int32) (M : gq_M) : Option (Int32 × gq_M) :=
  if a1 = 0 then (some (1, M)) else if a1 = 1 then (if a0 = 3 then (f_X10_isOf_48 N   M) else (if a0 = 4 then (f_X10_isOf_48 N   M) else (f_X10_isOf_53 N  0 M))) else if a1 = 2 then (if a0 = 5 then (f_X10_isOf_64 N  1 M) else (f_X10_isOf_64 N  0 M)) else if a1 = 3 then (if a0 = 7 then (f_X10_isOf_76 N  1 M) else (f_X10_isOf_76 N  0 M)) else if a1 = 4 then (if a0 = 1 then (f_X10_isOf_87 N  1 M) else (f_X10_isOf_87 N  0 M)) else (if a0 = 0 then (f_X10_isOf_103 N   M) else (if a0 = 6 then (f_X10_isOf_103 N   M) else (if a0 = 2 then (f_X10_isOf_103 N   M) else (f_X10_isOf_108 N  0 M))))
def f_X10_kilos_59 (N : Nat) (kh27 : Int32 → Int32 → Int32 → gq_M → Option (Int32 × gq_M)) (x1 : Int32) (x3 : Int32) (s0 : Int32) (s1 : Int32) (M : gq_M) : Option (Int32 × gq_M) :=
  kh27 x1 (s0 + s1) (x3 + 1) M
def f_X10_kilos_27_b (N : Nat) (kh27 : Int32 → Int32 → Int32 → gq_M → Option (Int32 × gq_M)) (x1 : Int32) (x2 : Int32) (x3 : Int32) (M : gq_M) : Option (Int32 × gq_M) :=
  if (M 0 16) ≤ x3 then (some (x2, M)) else (gq_g (gq_in x3 150) (gq_l (M 19 x3.toNatClampNeg) fun v11 => gq_b (f_X10_isOf N v11 x1 M) fun v12 M13 => if v12 = 0 then (f_X10_kilos_59 N kh27 x1 x3 x2 0 M13) else (gq_g (gq_in x3 150) (gq_l (M13 17 x3.toNatClampNeg) fun v17 => f_X10_kilos_59 N kh27 x1 x3 x2 v17 M13))))
def f_X10_kilos_27 (N : Nat) : Nat → Int32 → Int32 → Int32 → gq_M → Option (Int32 × gq_M)
  | 0 => fun _ _ _ _ => none
  | n9 + 1 => f_X10_kilos_27_b N  (f_X10_kilos_27 N  n9)
def f_X10_kilos_15 (N : Nat) (x1 : Int32) (s1 : Int32) (M : gq_M) : Option (Int32 × gq_M) :=
  gq_b (f_X10_fails N s1 M) fun v5 M6 => if v5 = 0 then (f_X10_kilos_27 N  N x1 0 0 M6) else (some (0, M6))
def f_X10_kilos (N : Nat) (a1 : Int32) (M : gq_M) : Option (Int32 × gq_M) :=
  gq_b (f_X10_isIn N a1 0 5 M) fun v1 M2 => if v1 = 0 then (f_X10_kilos_15 N  a1 1 M2) else (f_X10_kilos_15 N  a1 0 M2)
def f_X10_kilosAnew (N : Nat) (a1 : Int32) (M : gq_M) : Option (Int32 × gq_M) :=
  gq_b (f_X10_kilos N a1 M) fun v1 M2 => some (v1, M2)
def f_X10_average_161 (N : Nat) (s0 : Int32) (M : gq_M) : Option (Int32 × gq_M) :=
  some (s0, M)
def f_X10_average_139 (N : Nat) (kh45 : Int32 → Int32 → Int32 → Int32 → Int32 → gq_M → Option (Int32 × gq_M)) (x1 : Int32) (x2 : Int32) (x3 : Int32) (x5 : Int32) (s0 : Int32) (s1 : Int32) (M : gq_M) : Option (Int32 × gq_M) :=
  kh45 x1 x2 x3 (s0 + s1) (x5 + 1) M
def f_X10_average_119 (N : Nat) (kh45 : Int32 → Int32 → Int32 → Int32 → Int32 → gq_M → Option (Int32 × gq_M)) (x1 : Int32) (x2 : Int32) (x4 : Int32) (x5 : Int32) (x6 : Int32) (s0 : Int32) (s1 : Int32) (M : gq_M) : Option (Int32 × gq_M) :=
  if x6 = 0 then (f_X10_average_139 N kh45 x1 x2 (s0 + s1) x5 x4 0 M) else (gq_g (gq_in x5 150) (gq_l (M 17 x5.toNatClampNeg) fun v32 => f_X10_average_139 N kh45 x1 x2 (s0 + s1) x5 x4 v32 M))
def f_X10_average_92 (N : Nat) (kh45 : Int32 → Int32 → Int32 → Int32 → Int32 → gq_M → Option (Int32 × gq_M)) (x1 : Int32) (x2 : Int32) (x3 : Int32) (x4 : Int32) (x5 : Int32) (s0 : Int32) (M : gq_M) : Option (Int32 × gq_M) :=
  if s0 = 0 then (f_X10_average_119 N kh45 x1 x2 x4 x5 s0 x3 0 M) else (gq_g (gq_in x5 150) (gq_l (M 17 x5.toNatClampNeg) fun v27 => gq_g (gq_in x5 150) (gq_l (M 22 x5.toNatClampNeg) fun v29 => f_X10_average_119 N kh45 x1 x2 x4 x5 s0 x3 (v27 * v29) M)))
def f_X10_average_91 (N : Nat) (kh45 : Int32 → Int32 → Int32 → Int32 → Int32 → gq_M → Option (Int32 × gq_M)) (x1 : Int32) (x2 : Int32) (x3 : Int32) (x4 : Int32) (x5 : Int32) (M : gq_M) : Option (Int32 × gq_M) :=
  f_X10_average_92 N kh45 x1 x2 x3 x4 x5 0 M
def f_X10_average_45_b (N : Nat) (kh45 : Int32 → Int32 → Int32 → Int32 → Int32 → gq_M → Option (Int32 × gq_M)) (x1 : Int32) (x2 : Int32) (x3 : Int32) (x4 : Int32) (x5 : Int32) (M : gq_M) : Option (Int32 × gq_M) :=
  if (M 0 16) ≤ x5 then (if x4 = 0 then (f_X10_average_161 N  (-1) M) else (gq_g (gq_nz x4) (f_X10_average_161 N  (x3 / x4) M))) else (gq_g (gq_in x5 150) (gq_l (M 14 x5.toNatClampNeg) fun v17 => if v17 = x1 then (gq_g (gq_in x5 150) (gq_l (M 21 x5.toNatClampNeg) fun v20 => if v20 = (-1) then (f_X10_average_91 N kh45 x1 x2 x3 x4 x5 M) else (gq_g (gq_in x5 150) (gq_l (M 24 x5.toNatClampNeg) fun v23 => if v23 = x2 then (f_X10_average_92 N kh45 x1 x2 x3 x4 x5 1 M) else (f_X10_average_91 N kh45 x1 x2 x3 x4 x5 M))))) else (f_X10_average_91 N kh45 x1 x2 x3 x4 x5 M)))
def f_X10_average_45 (N : Nat) : Nat → Int32 → Int32 → Int32 → Int32 → Int32 → gq_M → Option (Int32 × gq_M)
  | 0 => fun _ _ _ _ _ _ => none
  | n9 + 1 => f_X10_average_45_b N  (f_X10_average_45 N  n9)
def f_X10_average_29 (N : Nat) (x1 : Int32) (x2 : Int32) (s1 : Int32) (M : gq_M) : Option (Int32 × gq_M) :=
  gq_b (f_X10_fails N s1 M) fun v9 M10 => if v9 = 0 then (f_X10_average_45 N  N x1 x2 0 0 0 M10) else (some (0, M10))
def f_X10_average (N : Nat) (a1 : Int32) (a2 : Int32) (M : gq_M) : Option (Int32 × gq_M) :=
  gq_b (f_X10_isKind N a1 M) fun v1 M2 => if v1 = 0 then (f_X10_average_29 N  a1 a2 1 M2) else (gq_b (f_X10_isIn N a2 0 (M2 0 1) M2) fun v5 M6 => if v5 = 0 then (f_X10_average_29 N  a1 a2 2 M6) else (f_X10_average_29 N  a1 a2 0 M6))
def f_X10_loaded_36 (N : Nat) (s0 : Int32) (M : gq_M) : Option (Int32 × gq_M) :=
  some (s0, M)
def f_X10_loaded_20 (N : Nat) (x1 : Int32) (s1 : Int32) (M : gq_M) : Option (Int32 × gq_M) :=
  gq_b (f_X10_fails N s1 M) fun v5 M6 => if v5 = 0 then (gq_g (gq_in x1 20) (gq_l (M6 47 x1.toNatClampNeg) fun v10 => f_X10_loaded_36 N  v10 M6)) else (f_X10_loaded_36 N  0 M6)
def f_X10_loaded (N : Nat) (a1 : Int32) (M : gq_M) : Option (Int32 × gq_M) :=
  gq_b (f_X10_isIn N a1 0 ((M 0 49) - 1) M) fun v1 M2 => if v1 = 0 then (f_X10_loaded_20 N  a1 1 M2) else (f_X10_loaded_20 N  a1 0 M2)
def MRz : gq_M := (fun k => if k = 0 then (fun j => if j = 3 then 1 else 0) else fun _ => 0)
def f_X10_init_487_b (N : Nat) (kh487 : Int32 → gq_M → Option (Int32 × gq_M)) (x1 : Int32) (M : gq_M) : Option (Int32 × gq_M) :=
  if 3 ≤ x1 then (some (0, M)) else (gq_g (gq_in x1 3) (gq_l (gq_up M 33 x1.toNatClampNeg 10) fun M18 => gq_g (gq_in x1 3) (gq_l (gq_up M18 34 x1.toNatClampNeg 1) fun M20 => gq_g (gq_in x1 3) (gq_l (gq_up M20 36 x1.toNatClampNeg (-1)) fun M22 => gq_g (gq_in x1 3) (gq_l (gq_up M22 39 x1.toNatClampNeg (-1)) fun M24 => gq_b (f_X10_begins N x1 M24) fun v25 M26 => kh487 (x1 + 1) M26)))))
def f_X10_init_487 (N : Nat) : Nat → Int32 → gq_M → Option (Int32 × gq_M)
  | 0 => fun _ _ => none
  | n9 + 1 => f_X10_init_487_b N  (f_X10_init_487 N  n9)
def f_X10_init_459_b (N : Nat) (kh459 : Int32 → gq_M → Option (Int32 × gq_M)) (x1 : Int32) (M : gq_M) : Option (Int32 × gq_M) :=
  if 8 ≤ x1 then (f_X10_init_487 N  N 0 M) else (gq_g (gq_in x1 8) (gq_l (gq_up M 10 x1.toNatClampNeg 1) fun M13 => gq_g (gq_in x1 8) (gq_l (gq_up M13 12 x1.toNatClampNeg 1) fun M15 => kh459 (x1 + 1) M15)))
def f_X10_init_459 (N : Nat) : Nat → Int32 → gq_M → Option (Int32 × gq_M)
  | 0 => fun _ _ => none
  | n9 + 1 => f_X10_init_459_b N  (f_X10_init_459 N  n9)
def f_X10_init_420_b (N : Nat) (kh420 : Int32 → gq_M → Option (Int32 × gq_M)) (x1 : Int32) (M : gq_M) : Option (Int32 × gq_M) :=
  if 4 ≤ x1 then (f_X10_init_459 N  N 0 M) else (gq_g (gq_in x1 4) (gq_l (gq_up M 6 x1.toNatClampNeg 1000) fun M6 => gq_g (gq_in x1 4) (gq_l (gq_up M6 7 x1.toNatClampNeg 100) fun M8 => gq_g (gq_in x1 4) (gq_l (gq_up M8 8 x1.toNatClampNeg (x1 - x1 / 3 * 3)) fun M10 => kh420 (x1 + 1) M10))))
def f_X10_init_420 (N : Nat) : Nat → Int32 → gq_M → Option (Int32 × gq_M)
  | 0 => fun _ _ => none
  | n9 + 1 => f_X10_init_420_b N  (f_X10_init_420 N  n9)
def f_X10_init_397_b (N : Nat) (kh397 : Int32 → gq_M → Option (Int32 × gq_M)) (x1 : Int32) (M : gq_M) : Option (Int32 × gq_M) :=
  if 32 ≤ x1 then (f_X10_init_420 N  N 0 M) else (gq_g (gq_in x1 32) (gq_l (gq_up M 1 x1.toNatClampNeg 10000) fun M3 => kh397 (x1 + 1) M3))
def f_X10_init_397 (N : Nat) : Nat → Int32 → gq_M → Option (Int32 × gq_M)
  | 0 => fun _ _ => none
  | n9 + 1 => f_X10_init_397_b N  (f_X10_init_397 N  n9)
def f_X10_init_395 (N : Nat) (M : gq_M) : Option (Int32 × gq_M) :=
  f_X10_init_397 N  N 0 M
def MR0 : gq_M := match f_X10_init_395 40 MRz with | some r => r.2 | none => MRz
