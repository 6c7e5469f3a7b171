-- equations of single instructions in a block
def bI (c : Prop) [Decidable c] : Int32 := if c then 1 else 0
theorem bI_0 {c : Prop} [Decidable c] : bI c = 0 ↔ ¬ c := by unfold bI; split <;> simp_all
theorem bI_n0 {c : Prop} [Decidable c] : ¬ bI c = 0 ↔ c := by unfold bI; split <;> simp_all
theorem bI_t {c : Prop} [Decidable c] (h : c) : bI c = nI 1 := if_pos h
theorem bI_f {c : Prop} [Decidable c] (h : ¬ c) : bI c = nI 0 := if_neg h
theorem nI_10 : (nI 1 = 0) = False := by simp only [eq_iff_iff, iff_false]; decide
theorem nI_00 : (nI 0 = 0) = True := by simp only [eq_iff_iff, iff_true]; decide
theorem gm_nar_b {c : Prop} [Decidable c] : narrow .boolean (.int (bI c)) = .int (bI c) := by unfold bI; split <;> rfl
theorem cat_i {x : Int32} : (Value.int x).category = 1 := rfl
theorem cat_r {x : Nat} : (Value.ref x).category = 1 := rfl
theorem c1_i {x : Int32} : gm_cat1 (.int x) = true := rfl
theorem c1_r {x : Nat} : gm_cat1 (.ref x) = true := rfl
section BL
variable {X : List Int32} {d i e : Nat} {l : List Instr} {L st : List Value} {h : gm_H}
theorem bl_cm1000000014 : gm_bl X d i e (.iconst (-1000000014) :: l) L st h = gm_bl X d i e l L (.int ((-1000000014)) :: st) h := by
  rw [← show Int32.ofInt (-1000000014) = (-1000000014) by decide]
  rfl
theorem bl_cm1000000013 : gm_bl X d i e (.iconst (-1000000013) :: l) L st h = gm_bl X d i e l L (.int ((-1000000013)) :: st) h := by
  rw [← show Int32.ofInt (-1000000013) = (-1000000013) by decide]
  rfl
theorem bl_cm1000000012 : gm_bl X d i e (.iconst (-1000000012) :: l) L st h = gm_bl X d i e l L (.int ((-1000000012)) :: st) h := by
  rw [← show Int32.ofInt (-1000000012) = (-1000000012) by decide]
  rfl
theorem bl_cm1000000011 : gm_bl X d i e (.iconst (-1000000011) :: l) L st h = gm_bl X d i e l L (.int ((-1000000011)) :: st) h := by
  rw [← show Int32.ofInt (-1000000011) = (-1000000011) by decide]
  rfl
theorem bl_cm1000000005 : gm_bl X d i e (.iconst (-1000000005) :: l) L st h = gm_bl X d i e l L (.int ((-1000000005)) :: st) h := by
  rw [← show Int32.ofInt (-1000000005) = (-1000000005) by decide]
  rfl
theorem bl_cm1000000003 : gm_bl X d i e (.iconst (-1000000003) :: l) L st h = gm_bl X d i e l L (.int ((-1000000003)) :: st) h := by
  rw [← show Int32.ofInt (-1000000003) = (-1000000003) by decide]
  rfl
theorem bl_cm1000000002 : gm_bl X d i e (.iconst (-1000000002) :: l) L st h = gm_bl X d i e l L (.int ((-1000000002)) :: st) h := by
  rw [← show Int32.ofInt (-1000000002) = (-1000000002) by decide]
  rfl
theorem bl_cm1000000001 : gm_bl X d i e (.iconst (-1000000001) :: l) L st h = gm_bl X d i e l L (.int ((-1000000001)) :: st) h := by
  rw [← show Int32.ofInt (-1000000001) = (-1000000001) by decide]
  rfl
theorem bl_cm99999 : gm_bl X d i e (.iconst (-99999) :: l) L st h = gm_bl X d i e l L (.int ((-99999)) :: st) h := by
  rw [← show Int32.ofInt (-99999) = (-99999) by decide]
  rfl
theorem bl_cm100 : gm_bl X d i e (.iconst (-100) :: l) L st h = gm_bl X d i e l L (.int ((-100)) :: st) h := by
  rw [← show Int32.ofInt (-100) = (-100) by decide]
  rfl
theorem bl_cm29 : gm_bl X d i e (.iconst (-29) :: l) L st h = gm_bl X d i e l L (.int ((-29)) :: st) h := by
  rw [← show Int32.ofInt (-29) = (-29) by decide]
  rfl
theorem bl_cm28 : gm_bl X d i e (.iconst (-28) :: l) L st h = gm_bl X d i e l L (.int ((-28)) :: st) h := by
  rw [← show Int32.ofInt (-28) = (-28) by decide]
  rfl
theorem bl_cm27 : gm_bl X d i e (.iconst (-27) :: l) L st h = gm_bl X d i e l L (.int ((-27)) :: st) h := by
  rw [← show Int32.ofInt (-27) = (-27) by decide]
  rfl
theorem bl_cm26 : gm_bl X d i e (.iconst (-26) :: l) L st h = gm_bl X d i e l L (.int ((-26)) :: st) h := by
  rw [← show Int32.ofInt (-26) = (-26) by decide]
  rfl
theorem bl_cm25 : gm_bl X d i e (.iconst (-25) :: l) L st h = gm_bl X d i e l L (.int ((-25)) :: st) h := by
  rw [← show Int32.ofInt (-25) = (-25) by decide]
  rfl
theorem bl_cm24 : gm_bl X d i e (.iconst (-24) :: l) L st h = gm_bl X d i e l L (.int ((-24)) :: st) h := by
  rw [← show Int32.ofInt (-24) = (-24) by decide]
  rfl
theorem bl_cm23 : gm_bl X d i e (.iconst (-23) :: l) L st h = gm_bl X d i e l L (.int ((-23)) :: st) h := by
  rw [← show Int32.ofInt (-23) = (-23) by decide]
  rfl
theorem bl_cm22 : gm_bl X d i e (.iconst (-22) :: l) L st h = gm_bl X d i e l L (.int ((-22)) :: st) h := by
  rw [← show Int32.ofInt (-22) = (-22) by decide]
  rfl
theorem bl_cm21 : gm_bl X d i e (.iconst (-21) :: l) L st h = gm_bl X d i e l L (.int ((-21)) :: st) h := by
  rw [← show Int32.ofInt (-21) = (-21) by decide]
  rfl
theorem bl_cm20 : gm_bl X d i e (.iconst (-20) :: l) L st h = gm_bl X d i e l L (.int ((-20)) :: st) h := by
  rw [← show Int32.ofInt (-20) = (-20) by decide]
  rfl
theorem bl_cm10 : gm_bl X d i e (.iconst (-10) :: l) L st h = gm_bl X d i e l L (.int ((-10)) :: st) h := by
  rw [← show Int32.ofInt (-10) = (-10) by decide]
  rfl
theorem bl_cm1 : gm_bl X d i e (.iconst (-1) :: l) L st h = gm_bl X d i e l L (.int ((-1)) :: st) h := by
  rw [← show Int32.ofInt (-1) = (-1) by decide]
  rfl
theorem bl_c0 : gm_bl X d i e (.iconst (0) :: l) L st h = gm_bl X d i e l L (.int (nI 0) :: st) h := rfl
theorem bl_c1 : gm_bl X d i e (.iconst (1) :: l) L st h = gm_bl X d i e l L (.int (nI 1) :: st) h := rfl
theorem bl_c2 : gm_bl X d i e (.iconst (2) :: l) L st h = gm_bl X d i e l L (.int (nI 2) :: st) h := rfl
theorem bl_c3 : gm_bl X d i e (.iconst (3) :: l) L st h = gm_bl X d i e l L (.int (nI 3) :: st) h := rfl
theorem bl_c4 : gm_bl X d i e (.iconst (4) :: l) L st h = gm_bl X d i e l L (.int (nI 4) :: st) h := rfl
theorem bl_c5 : gm_bl X d i e (.iconst (5) :: l) L st h = gm_bl X d i e l L (.int (nI 5) :: st) h := rfl
theorem bl_c6 : gm_bl X d i e (.iconst (6) :: l) L st h = gm_bl X d i e l L (.int (nI 6) :: st) h := rfl
theorem bl_c7 : gm_bl X d i e (.iconst (7) :: l) L st h = gm_bl X d i e l L (.int (nI 7) :: st) h := rfl
theorem bl_c8 : gm_bl X d i e (.iconst (8) :: l) L st h = gm_bl X d i e l L (.int (nI 8) :: st) h := rfl
theorem bl_c9 : gm_bl X d i e (.iconst (9) :: l) L st h = gm_bl X d i e l L (.int (nI 9) :: st) h := rfl
theorem bl_c10 : gm_bl X d i e (.iconst (10) :: l) L st h = gm_bl X d i e l L (.int (nI 10) :: st) h := rfl
theorem bl_c11 : gm_bl X d i e (.iconst (11) :: l) L st h = gm_bl X d i e l L (.int (nI 11) :: st) h := rfl
theorem bl_c12 : gm_bl X d i e (.iconst (12) :: l) L st h = gm_bl X d i e l L (.int (nI 12) :: st) h := rfl
theorem bl_c13 : gm_bl X d i e (.iconst (13) :: l) L st h = gm_bl X d i e l L (.int (nI 13) :: st) h := rfl
theorem bl_c14 : gm_bl X d i e (.iconst (14) :: l) L st h = gm_bl X d i e l L (.int (nI 14) :: st) h := rfl
theorem bl_c15 : gm_bl X d i e (.iconst (15) :: l) L st h = gm_bl X d i e l L (.int (nI 15) :: st) h := rfl
theorem bl_c24 : gm_bl X d i e (.iconst (24) :: l) L st h = gm_bl X d i e l L (.int (nI 24) :: st) h := rfl
theorem bl_c25 : gm_bl X d i e (.iconst (25) :: l) L st h = gm_bl X d i e l L (.int (nI 25) :: st) h := rfl
theorem bl_c30 : gm_bl X d i e (.iconst (30) :: l) L st h = gm_bl X d i e l L (.int (nI 30) :: st) h := rfl
theorem bl_c32 : gm_bl X d i e (.iconst (32) :: l) L st h = gm_bl X d i e l L (.int (nI 32) :: st) h := rfl
theorem bl_c33 : gm_bl X d i e (.iconst (33) :: l) L st h = gm_bl X d i e l L (.int (nI 33) :: st) h := rfl
theorem bl_c38 : gm_bl X d i e (.iconst (38) :: l) L st h = gm_bl X d i e l L (.int (nI 38) :: st) h := rfl
theorem bl_c40 : gm_bl X d i e (.iconst (40) :: l) L st h = gm_bl X d i e l L (.int (nI 40) :: st) h := rfl
theorem bl_c41 : gm_bl X d i e (.iconst (41) :: l) L st h = gm_bl X d i e l L (.int (nI 41) :: st) h := rfl
theorem bl_c42 : gm_bl X d i e (.iconst (42) :: l) L st h = gm_bl X d i e l L (.int (nI 42) :: st) h := rfl
theorem bl_c43 : gm_bl X d i e (.iconst (43) :: l) L st h = gm_bl X d i e l L (.int (nI 43) :: st) h := rfl
theorem bl_c45 : gm_bl X d i e (.iconst (45) :: l) L st h = gm_bl X d i e l L (.int (nI 45) :: st) h := rfl
theorem bl_c47 : gm_bl X d i e (.iconst (47) :: l) L st h = gm_bl X d i e l L (.int (nI 47) :: st) h := rfl
theorem bl_c48 : gm_bl X d i e (.iconst (48) :: l) L st h = gm_bl X d i e l L (.int (nI 48) :: st) h := rfl
theorem bl_c50 : gm_bl X d i e (.iconst (50) :: l) L st h = gm_bl X d i e l L (.int (nI 50) :: st) h := rfl
theorem bl_c57 : gm_bl X d i e (.iconst (57) :: l) L st h = gm_bl X d i e l L (.int (nI 57) :: st) h := rfl
theorem bl_c60 : gm_bl X d i e (.iconst (60) :: l) L st h = gm_bl X d i e l L (.int (nI 60) :: st) h := rfl
theorem bl_c61 : gm_bl X d i e (.iconst (61) :: l) L st h = gm_bl X d i e l L (.int (nI 61) :: st) h := rfl
theorem bl_c62 : gm_bl X d i e (.iconst (62) :: l) L st h = gm_bl X d i e l L (.int (nI 62) :: st) h := rfl
theorem bl_c63 : gm_bl X d i e (.iconst (63) :: l) L st h = gm_bl X d i e l L (.int (nI 63) :: st) h := rfl
theorem bl_c69 : gm_bl X d i e (.iconst (69) :: l) L st h = gm_bl X d i e l L (.int (nI 69) :: st) h := rfl
theorem bl_c96 : gm_bl X d i e (.iconst (96) :: l) L st h = gm_bl X d i e l L (.int (nI 96) :: st) h := rfl
theorem bl_c97 : gm_bl X d i e (.iconst (97) :: l) L st h = gm_bl X d i e l L (.int (nI 97) :: st) h := rfl
theorem bl_c99 : gm_bl X d i e (.iconst (99) :: l) L st h = gm_bl X d i e l L (.int (nI 99) :: st) h := rfl
theorem bl_c100 : gm_bl X d i e (.iconst (100) :: l) L st h = gm_bl X d i e l L (.int (nI 100) :: st) h := rfl
theorem bl_c122 : gm_bl X d i e (.iconst (122) :: l) L st h = gm_bl X d i e l L (.int (nI 122) :: st) h := rfl
theorem bl_c124 : gm_bl X d i e (.iconst (124) :: l) L st h = gm_bl X d i e l L (.int (nI 124) :: st) h := rfl
theorem bl_c125 : gm_bl X d i e (.iconst (125) :: l) L st h = gm_bl X d i e l L (.int (nI 125) :: st) h := rfl
theorem bl_c200 : gm_bl X d i e (.iconst (200) :: l) L st h = gm_bl X d i e l L (.int (nI 200) :: st) h := rfl
theorem bl_c255 : gm_bl X d i e (.iconst (255) :: l) L st h = gm_bl X d i e l L (.int (nI 255) :: st) h := rfl
theorem bl_c300 : gm_bl X d i e (.iconst (300) :: l) L st h = gm_bl X d i e l L (.int (nI 300) :: st) h := rfl
theorem bl_c992 : gm_bl X d i e (.iconst (992) :: l) L st h = gm_bl X d i e l L (.int (nI 992) :: st) h := rfl
theorem bl_c999 : gm_bl X d i e (.iconst (999) :: l) L st h = gm_bl X d i e l L (.int (nI 999) :: st) h := rfl
theorem bl_c1469 : gm_bl X d i e (.iconst (1469) :: l) L st h = gm_bl X d i e l L (.int (nI 1469) :: st) h := rfl
theorem bl_c9999 : gm_bl X d i e (.iconst (9999) :: l) L st h = gm_bl X d i e l L (.int (nI 9999) :: st) h := rfl
theorem bl_c10000 : gm_bl X d i e (.iconst (10000) :: l) L st h = gm_bl X d i e l L (.int (nI 10000) :: st) h := rfl
theorem bl_c12345 : gm_bl X d i e (.iconst (12345) :: l) L st h = gm_bl X d i e l L (.int (nI 12345) :: st) h := rfl
theorem bl_c20000 : gm_bl X d i e (.iconst (20000) :: l) L st h = gm_bl X d i e l L (.int (nI 20000) :: st) h := rfl
theorem bl_c20033 : gm_bl X d i e (.iconst (20033) :: l) L st h = gm_bl X d i e l L (.int (nI 20033) :: st) h := rfl
theorem bl_c99999 : gm_bl X d i e (.iconst (99999) :: l) L st h = gm_bl X d i e l L (.int (nI 99999) :: st) h := rfl
theorem bl_c1103515245 : gm_bl X d i e (.iconst (1103515245) :: l) L st h = gm_bl X d i e l L (.int (nI 1103515245) :: st) h := rfl
theorem bl_s0 : gm_bl X d i e (.ldc 0 :: l) L st h = gm_bl X d i e l L (.ref (10030 + 0) :: st) h := rfl
theorem bl_s1 : gm_bl X d i e (.ldc 1 :: l) L st h = gm_bl X d i e l L (.ref (10030 + 1) :: st) h := rfl
theorem bl_s2 : gm_bl X d i e (.ldc 2 :: l) L st h = gm_bl X d i e l L (.ref (10030 + 2) :: st) h := rfl
theorem bl_s3 : gm_bl X d i e (.ldc 3 :: l) L st h = gm_bl X d i e l L (.ref (10030 + 3) :: st) h := rfl
theorem bl_s4 : gm_bl X d i e (.ldc 4 :: l) L st h = gm_bl X d i e l L (.ref (10030 + 4) :: st) h := rfl
theorem bl_s5 : gm_bl X d i e (.ldc 5 :: l) L st h = gm_bl X d i e l L (.ref (10030 + 5) :: st) h := rfl
theorem bl_s6 : gm_bl X d i e (.ldc 6 :: l) L st h = gm_bl X d i e l L (.ref (10030 + 6) :: st) h := rfl
theorem bl_il0 {x : Int32} : gm_bl X d i e (.iload 0 :: l) (.int x :: L) st h = gm_bl X d i e l (.int x :: L) (.int x :: st) h := rfl
theorem bl_al0 {x : Nat} (hx : ¬ x = 10050) : gm_bl X d i e (.aload 0 :: l) (.ref x :: L) st h = gm_bl X d i e l (.ref x :: L) (.ref x :: st) h := by
  show gm_b1 X d i (.aload 0) (.ref x :: L) st h _ = _
  simp [gm_b1, gm_stp, hx, gm_go]
theorem bl_is0 {v : Value} {x : Int32} : gm_bl X d i e (.istore 0 :: l) (v :: L) (.int x :: st) h = gm_bl X d i e l (.int x :: L) st h := by
  show gm_b1 X d i (.istore 0) (v :: L) (.int x :: st) h _ = _
  simp [gm_b1, gm_stp, gm_go]
theorem bl_as0 {v : Value} {x : Nat} (hx : ¬ x = 10050) : gm_bl X d i e (.astore 0 :: l) (v :: L) (.ref x :: st) h = gm_bl X d i e l (.ref x :: L) st h := by
  show gm_b1 X d i (.astore 0) (v :: L) (.ref x :: st) h _ = _
  simp [gm_b1, gm_stp, gm_go, hx]
theorem bl_il1 {v0 : Value} {x : Int32} : gm_bl X d i e (.iload 1 :: l) (v0 :: .int x :: L) st h = gm_bl X d i e l (v0 :: .int x :: L) (.int x :: st) h := rfl
theorem bl_al1 {v0 : Value} {x : Nat} (hx : ¬ x = 10050) : gm_bl X d i e (.aload 1 :: l) (v0 :: .ref x :: L) st h = gm_bl X d i e l (v0 :: .ref x :: L) (.ref x :: st) h := by
  show gm_b1 X d i (.aload 1) (v0 :: .ref x :: L) st h _ = _
  simp [gm_b1, gm_stp, hx, gm_go]
theorem bl_is1 {v0 : Value} {v : Value} {x : Int32} : gm_bl X d i e (.istore 1 :: l) (v0 :: v :: L) (.int x :: st) h = gm_bl X d i e l (v0 :: .int x :: L) st h := by
  show gm_b1 X d i (.istore 1) (v0 :: v :: L) (.int x :: st) h _ = _
  simp [gm_b1, gm_stp, gm_go]
theorem bl_as1 {v0 : Value} {v : Value} {x : Nat} (hx : ¬ x = 10050) : gm_bl X d i e (.astore 1 :: l) (v0 :: v :: L) (.ref x :: st) h = gm_bl X d i e l (v0 :: .ref x :: L) st h := by
  show gm_b1 X d i (.astore 1) (v0 :: v :: L) (.ref x :: st) h _ = _
  simp [gm_b1, gm_stp, gm_go, hx]
theorem bl_il2 {v0 v1 : Value} {x : Int32} : gm_bl X d i e (.iload 2 :: l) (v0 :: v1 :: .int x :: L) st h = gm_bl X d i e l (v0 :: v1 :: .int x :: L) (.int x :: st) h := rfl
theorem bl_al2 {v0 v1 : Value} {x : Nat} (hx : ¬ x = 10050) : gm_bl X d i e (.aload 2 :: l) (v0 :: v1 :: .ref x :: L) st h = gm_bl X d i e l (v0 :: v1 :: .ref x :: L) (.ref x :: st) h := by
  show gm_b1 X d i (.aload 2) (v0 :: v1 :: .ref x :: L) st h _ = _
  simp [gm_b1, gm_stp, hx, gm_go]
theorem bl_is2 {v0 v1 : Value} {v : Value} {x : Int32} : gm_bl X d i e (.istore 2 :: l) (v0 :: v1 :: v :: L) (.int x :: st) h = gm_bl X d i e l (v0 :: v1 :: .int x :: L) st h := by
  show gm_b1 X d i (.istore 2) (v0 :: v1 :: v :: L) (.int x :: st) h _ = _
  simp [gm_b1, gm_stp, gm_go]
theorem bl_as2 {v0 v1 : Value} {v : Value} {x : Nat} (hx : ¬ x = 10050) : gm_bl X d i e (.astore 2 :: l) (v0 :: v1 :: v :: L) (.ref x :: st) h = gm_bl X d i e l (v0 :: v1 :: .ref x :: L) st h := by
  show gm_b1 X d i (.astore 2) (v0 :: v1 :: v :: L) (.ref x :: st) h _ = _
  simp [gm_b1, gm_stp, gm_go, hx]
theorem bl_il3 {v0 v1 v2 : Value} {x : Int32} : gm_bl X d i e (.iload 3 :: l) (v0 :: v1 :: v2 :: .int x :: L) st h = gm_bl X d i e l (v0 :: v1 :: v2 :: .int x :: L) (.int x :: st) h := rfl
theorem bl_al3 {v0 v1 v2 : Value} {x : Nat} (hx : ¬ x = 10050) : gm_bl X d i e (.aload 3 :: l) (v0 :: v1 :: v2 :: .ref x :: L) st h = gm_bl X d i e l (v0 :: v1 :: v2 :: .ref x :: L) (.ref x :: st) h := by
  show gm_b1 X d i (.aload 3) (v0 :: v1 :: v2 :: .ref x :: L) st h _ = _
  simp [gm_b1, gm_stp, hx, gm_go]
theorem bl_is3 {v0 v1 v2 : Value} {v : Value} {x : Int32} : gm_bl X d i e (.istore 3 :: l) (v0 :: v1 :: v2 :: v :: L) (.int x :: st) h = gm_bl X d i e l (v0 :: v1 :: v2 :: .int x :: L) st h := by
  show gm_b1 X d i (.istore 3) (v0 :: v1 :: v2 :: v :: L) (.int x :: st) h _ = _
  simp [gm_b1, gm_stp, gm_go]
theorem bl_as3 {v0 v1 v2 : Value} {v : Value} {x : Nat} (hx : ¬ x = 10050) : gm_bl X d i e (.astore 3 :: l) (v0 :: v1 :: v2 :: v :: L) (.ref x :: st) h = gm_bl X d i e l (v0 :: v1 :: v2 :: .ref x :: L) st h := by
  show gm_b1 X d i (.astore 3) (v0 :: v1 :: v2 :: v :: L) (.ref x :: st) h _ = _
  simp [gm_b1, gm_stp, gm_go, hx]
theorem bl_il4 {v0 v1 v2 v3 : Value} {x : Int32} : gm_bl X d i e (.iload 4 :: l) (v0 :: v1 :: v2 :: v3 :: .int x :: L) st h = gm_bl X d i e l (v0 :: v1 :: v2 :: v3 :: .int x :: L) (.int x :: st) h := rfl
theorem bl_al4 {v0 v1 v2 v3 : Value} {x : Nat} (hx : ¬ x = 10050) : gm_bl X d i e (.aload 4 :: l) (v0 :: v1 :: v2 :: v3 :: .ref x :: L) st h = gm_bl X d i e l (v0 :: v1 :: v2 :: v3 :: .ref x :: L) (.ref x :: st) h := by
  show gm_b1 X d i (.aload 4) (v0 :: v1 :: v2 :: v3 :: .ref x :: L) st h _ = _
  simp [gm_b1, gm_stp, hx, gm_go]
theorem bl_is4 {v0 v1 v2 v3 : Value} {v : Value} {x : Int32} : gm_bl X d i e (.istore 4 :: l) (v0 :: v1 :: v2 :: v3 :: v :: L) (.int x :: st) h = gm_bl X d i e l (v0 :: v1 :: v2 :: v3 :: .int x :: L) st h := by
  show gm_b1 X d i (.istore 4) (v0 :: v1 :: v2 :: v3 :: v :: L) (.int x :: st) h _ = _
  simp [gm_b1, gm_stp, gm_go]
theorem bl_as4 {v0 v1 v2 v3 : Value} {v : Value} {x : Nat} (hx : ¬ x = 10050) : gm_bl X d i e (.astore 4 :: l) (v0 :: v1 :: v2 :: v3 :: v :: L) (.ref x :: st) h = gm_bl X d i e l (v0 :: v1 :: v2 :: v3 :: .ref x :: L) st h := by
  show gm_b1 X d i (.astore 4) (v0 :: v1 :: v2 :: v3 :: v :: L) (.ref x :: st) h _ = _
  simp [gm_b1, gm_stp, gm_go, hx]
theorem bl_il5 {v0 v1 v2 v3 v4 : Value} {x : Int32} : gm_bl X d i e (.iload 5 :: l) (v0 :: v1 :: v2 :: v3 :: v4 :: .int x :: L) st h = gm_bl X d i e l (v0 :: v1 :: v2 :: v3 :: v4 :: .int x :: L) (.int x :: st) h := rfl
theorem bl_al5 {v0 v1 v2 v3 v4 : Value} {x : Nat} (hx : ¬ x = 10050) : gm_bl X d i e (.aload 5 :: l) (v0 :: v1 :: v2 :: v3 :: v4 :: .ref x :: L) st h = gm_bl X d i e l (v0 :: v1 :: v2 :: v3 :: v4 :: .ref x :: L) (.ref x :: st) h := by
  show gm_b1 X d i (.aload 5) (v0 :: v1 :: v2 :: v3 :: v4 :: .ref x :: L) st h _ = _
  simp [gm_b1, gm_stp, hx, gm_go]
theorem bl_is5 {v0 v1 v2 v3 v4 : Value} {v : Value} {x : Int32} : gm_bl X d i e (.istore 5 :: l) (v0 :: v1 :: v2 :: v3 :: v4 :: v :: L) (.int x :: st) h = gm_bl X d i e l (v0 :: v1 :: v2 :: v3 :: v4 :: .int x :: L) st h := by
  show gm_b1 X d i (.istore 5) (v0 :: v1 :: v2 :: v3 :: v4 :: v :: L) (.int x :: st) h _ = _
  simp [gm_b1, gm_stp, gm_go]
theorem bl_as5 {v0 v1 v2 v3 v4 : Value} {v : Value} {x : Nat} (hx : ¬ x = 10050) : gm_bl X d i e (.astore 5 :: l) (v0 :: v1 :: v2 :: v3 :: v4 :: v :: L) (.ref x :: st) h = gm_bl X d i e l (v0 :: v1 :: v2 :: v3 :: v4 :: .ref x :: L) st h := by
  show gm_b1 X d i (.astore 5) (v0 :: v1 :: v2 :: v3 :: v4 :: v :: L) (.ref x :: st) h _ = _
  simp [gm_b1, gm_stp, gm_go, hx]
theorem bl_il6 {v0 v1 v2 v3 v4 v5 : Value} {x : Int32} : gm_bl X d i e (.iload 6 :: l) (v0 :: v1 :: v2 :: v3 :: v4 :: v5 :: .int x :: L) st h = gm_bl X d i e l (v0 :: v1 :: v2 :: v3 :: v4 :: v5 :: .int x :: L) (.int x :: st) h := rfl
theorem bl_al6 {v0 v1 v2 v3 v4 v5 : Value} {x : Nat} (hx : ¬ x = 10050) : gm_bl X d i e (.aload 6 :: l) (v0 :: v1 :: v2 :: v3 :: v4 :: v5 :: .ref x :: L) st h = gm_bl X d i e l (v0 :: v1 :: v2 :: v3 :: v4 :: v5 :: .ref x :: L) (.ref x :: st) h := by
  show gm_b1 X d i (.aload 6) (v0 :: v1 :: v2 :: v3 :: v4 :: v5 :: .ref x :: L) st h _ = _
  simp [gm_b1, gm_stp, hx, gm_go]
theorem bl_is6 {v0 v1 v2 v3 v4 v5 : Value} {v : Value} {x : Int32} : gm_bl X d i e (.istore 6 :: l) (v0 :: v1 :: v2 :: v3 :: v4 :: v5 :: v :: L) (.int x :: st) h = gm_bl X d i e l (v0 :: v1 :: v2 :: v3 :: v4 :: v5 :: .int x :: L) st h := by
  show gm_b1 X d i (.istore 6) (v0 :: v1 :: v2 :: v3 :: v4 :: v5 :: v :: L) (.int x :: st) h _ = _
  simp [gm_b1, gm_stp, gm_go]
theorem bl_as6 {v0 v1 v2 v3 v4 v5 : Value} {v : Value} {x : Nat} (hx : ¬ x = 10050) : gm_bl X d i e (.astore 6 :: l) (v0 :: v1 :: v2 :: v3 :: v4 :: v5 :: v :: L) (.ref x :: st) h = gm_bl X d i e l (v0 :: v1 :: v2 :: v3 :: v4 :: v5 :: .ref x :: L) st h := by
  show gm_b1 X d i (.astore 6) (v0 :: v1 :: v2 :: v3 :: v4 :: v5 :: v :: L) (.ref x :: st) h _ = _
  simp [gm_b1, gm_stp, gm_go, hx]
theorem bl_il7 {v0 v1 v2 v3 v4 v5 v6 : Value} {x : Int32} : gm_bl X d i e (.iload 7 :: l) (v0 :: v1 :: v2 :: v3 :: v4 :: v5 :: v6 :: .int x :: L) st h = gm_bl X d i e l (v0 :: v1 :: v2 :: v3 :: v4 :: v5 :: v6 :: .int x :: L) (.int x :: st) h := rfl
theorem bl_al7 {v0 v1 v2 v3 v4 v5 v6 : Value} {x : Nat} (hx : ¬ x = 10050) : gm_bl X d i e (.aload 7 :: l) (v0 :: v1 :: v2 :: v3 :: v4 :: v5 :: v6 :: .ref x :: L) st h = gm_bl X d i e l (v0 :: v1 :: v2 :: v3 :: v4 :: v5 :: v6 :: .ref x :: L) (.ref x :: st) h := by
  show gm_b1 X d i (.aload 7) (v0 :: v1 :: v2 :: v3 :: v4 :: v5 :: v6 :: .ref x :: L) st h _ = _
  simp [gm_b1, gm_stp, hx, gm_go]
theorem bl_is7 {v0 v1 v2 v3 v4 v5 v6 : Value} {v : Value} {x : Int32} : gm_bl X d i e (.istore 7 :: l) (v0 :: v1 :: v2 :: v3 :: v4 :: v5 :: v6 :: v :: L) (.int x :: st) h = gm_bl X d i e l (v0 :: v1 :: v2 :: v3 :: v4 :: v5 :: v6 :: .int x :: L) st h := by
  show gm_b1 X d i (.istore 7) (v0 :: v1 :: v2 :: v3 :: v4 :: v5 :: v6 :: v :: L) (.int x :: st) h _ = _
  simp [gm_b1, gm_stp, gm_go]
theorem bl_as7 {v0 v1 v2 v3 v4 v5 v6 : Value} {v : Value} {x : Nat} (hx : ¬ x = 10050) : gm_bl X d i e (.astore 7 :: l) (v0 :: v1 :: v2 :: v3 :: v4 :: v5 :: v6 :: v :: L) (.ref x :: st) h = gm_bl X d i e l (v0 :: v1 :: v2 :: v3 :: v4 :: v5 :: v6 :: .ref x :: L) st h := by
  show gm_b1 X d i (.astore 7) (v0 :: v1 :: v2 :: v3 :: v4 :: v5 :: v6 :: v :: L) (.ref x :: st) h _ = _
  simp [gm_b1, gm_stp, gm_go, hx]
theorem bl_il8 {v0 v1 v2 v3 v4 v5 v6 v7 : Value} {x : Int32} : gm_bl X d i e (.iload 8 :: l) (v0 :: v1 :: v2 :: v3 :: v4 :: v5 :: v6 :: v7 :: .int x :: L) st h = gm_bl X d i e l (v0 :: v1 :: v2 :: v3 :: v4 :: v5 :: v6 :: v7 :: .int x :: L) (.int x :: st) h := rfl
theorem bl_al8 {v0 v1 v2 v3 v4 v5 v6 v7 : Value} {x : Nat} (hx : ¬ x = 10050) : gm_bl X d i e (.aload 8 :: l) (v0 :: v1 :: v2 :: v3 :: v4 :: v5 :: v6 :: v7 :: .ref x :: L) st h = gm_bl X d i e l (v0 :: v1 :: v2 :: v3 :: v4 :: v5 :: v6 :: v7 :: .ref x :: L) (.ref x :: st) h := by
  show gm_b1 X d i (.aload 8) (v0 :: v1 :: v2 :: v3 :: v4 :: v5 :: v6 :: v7 :: .ref x :: L) st h _ = _
  simp [gm_b1, gm_stp, hx, gm_go]
theorem bl_is8 {v0 v1 v2 v3 v4 v5 v6 v7 : Value} {v : Value} {x : Int32} : gm_bl X d i e (.istore 8 :: l) (v0 :: v1 :: v2 :: v3 :: v4 :: v5 :: v6 :: v7 :: v :: L) (.int x :: st) h = gm_bl X d i e l (v0 :: v1 :: v2 :: v3 :: v4 :: v5 :: v6 :: v7 :: .int x :: L) st h := by
  show gm_b1 X d i (.istore 8) (v0 :: v1 :: v2 :: v3 :: v4 :: v5 :: v6 :: v7 :: v :: L) (.int x :: st) h _ = _
  simp [gm_b1, gm_stp, gm_go]
theorem bl_as8 {v0 v1 v2 v3 v4 v5 v6 v7 : Value} {v : Value} {x : Nat} (hx : ¬ x = 10050) : gm_bl X d i e (.astore 8 :: l) (v0 :: v1 :: v2 :: v3 :: v4 :: v5 :: v6 :: v7 :: v :: L) (.ref x :: st) h = gm_bl X d i e l (v0 :: v1 :: v2 :: v3 :: v4 :: v5 :: v6 :: v7 :: .ref x :: L) st h := by
  show gm_b1 X d i (.astore 8) (v0 :: v1 :: v2 :: v3 :: v4 :: v5 :: v6 :: v7 :: v :: L) (.ref x :: st) h _ = _
  simp [gm_b1, gm_stp, gm_go, hx]
theorem bl_il9 {v0 v1 v2 v3 v4 v5 v6 v7 v8 : Value} {x : Int32} : gm_bl X d i e (.iload 9 :: l) (v0 :: v1 :: v2 :: v3 :: v4 :: v5 :: v6 :: v7 :: v8 :: .int x :: L) st h = gm_bl X d i e l (v0 :: v1 :: v2 :: v3 :: v4 :: v5 :: v6 :: v7 :: v8 :: .int x :: L) (.int x :: st) h := rfl
theorem bl_al9 {v0 v1 v2 v3 v4 v5 v6 v7 v8 : Value} {x : Nat} (hx : ¬ x = 10050) : gm_bl X d i e (.aload 9 :: l) (v0 :: v1 :: v2 :: v3 :: v4 :: v5 :: v6 :: v7 :: v8 :: .ref x :: L) st h = gm_bl X d i e l (v0 :: v1 :: v2 :: v3 :: v4 :: v5 :: v6 :: v7 :: v8 :: .ref x :: L) (.ref x :: st) h := by
  show gm_b1 X d i (.aload 9) (v0 :: v1 :: v2 :: v3 :: v4 :: v5 :: v6 :: v7 :: v8 :: .ref x :: L) st h _ = _
  simp [gm_b1, gm_stp, hx, gm_go]
theorem bl_is9 {v0 v1 v2 v3 v4 v5 v6 v7 v8 : Value} {v : Value} {x : Int32} : gm_bl X d i e (.istore 9 :: l) (v0 :: v1 :: v2 :: v3 :: v4 :: v5 :: v6 :: v7 :: v8 :: v :: L) (.int x :: st) h = gm_bl X d i e l (v0 :: v1 :: v2 :: v3 :: v4 :: v5 :: v6 :: v7 :: v8 :: .int x :: L) st h := by
  show gm_b1 X d i (.istore 9) (v0 :: v1 :: v2 :: v3 :: v4 :: v5 :: v6 :: v7 :: v8 :: v :: L) (.int x :: st) h _ = _
  simp [gm_b1, gm_stp, gm_go]
theorem bl_as9 {v0 v1 v2 v3 v4 v5 v6 v7 v8 : Value} {v : Value} {x : Nat} (hx : ¬ x = 10050) : gm_bl X d i e (.astore 9 :: l) (v0 :: v1 :: v2 :: v3 :: v4 :: v5 :: v6 :: v7 :: v8 :: v :: L) (.ref x :: st) h = gm_bl X d i e l (v0 :: v1 :: v2 :: v3 :: v4 :: v5 :: v6 :: v7 :: v8 :: .ref x :: L) st h := by
  show gm_b1 X d i (.astore 9) (v0 :: v1 :: v2 :: v3 :: v4 :: v5 :: v6 :: v7 :: v8 :: v :: L) (.ref x :: st) h _ = _
  simp [gm_b1, gm_stp, gm_go, hx]
theorem bl_in1_1 {v0 : Value} {x : Int32} : gm_bl X d i e (.iinc 1 (1) :: l) (v0 :: .int x :: L) st h = gm_bl X d i e l (v0 :: .int (x + nI 1) :: L) st h := by
  show gm_b1 X d i (.iinc 1 (1)) (v0 :: .int x :: L) st h _ = _
  simp [gm_b1, gm_stp, gm_go, show Int32.ofInt (1) = (nI 1) by decide]
theorem bl_in2_m8 {v0 v1 : Value} {x : Int32} : gm_bl X d i e (.iinc 2 (-8) :: l) (v0 :: v1 :: .int x :: L) st h = gm_bl X d i e l (v0 :: v1 :: .int (x + (-8)) :: L) st h := by
  show gm_b1 X d i (.iinc 2 (-8)) (v0 :: v1 :: .int x :: L) st h _ = _
  simp [gm_b1, gm_stp, gm_go, show Int32.ofInt (-8) = ((-8)) by decide]
theorem bl_in2_1 {v0 v1 : Value} {x : Int32} : gm_bl X d i e (.iinc 2 (1) :: l) (v0 :: v1 :: .int x :: L) st h = gm_bl X d i e l (v0 :: v1 :: .int (x + nI 1) :: L) st h := by
  show gm_b1 X d i (.iinc 2 (1)) (v0 :: v1 :: .int x :: L) st h _ = _
  simp [gm_b1, gm_stp, gm_go, show Int32.ofInt (1) = (nI 1) by decide]
theorem bl_in3_m1 {v0 v1 v2 : Value} {x : Int32} : gm_bl X d i e (.iinc 3 (-1) :: l) (v0 :: v1 :: v2 :: .int x :: L) st h = gm_bl X d i e l (v0 :: v1 :: v2 :: .int (x + (-1)) :: L) st h := by
  show gm_b1 X d i (.iinc 3 (-1)) (v0 :: v1 :: v2 :: .int x :: L) st h _ = _
  simp [gm_b1, gm_stp, gm_go, show Int32.ofInt (-1) = ((-1)) by decide]
theorem bl_in3_1 {v0 v1 v2 : Value} {x : Int32} : gm_bl X d i e (.iinc 3 (1) :: l) (v0 :: v1 :: v2 :: .int x :: L) st h = gm_bl X d i e l (v0 :: v1 :: v2 :: .int (x + nI 1) :: L) st h := by
  show gm_b1 X d i (.iinc 3 (1)) (v0 :: v1 :: v2 :: .int x :: L) st h _ = _
  simp [gm_b1, gm_stp, gm_go, show Int32.ofInt (1) = (nI 1) by decide]
theorem bl_in3_6 {v0 v1 v2 : Value} {x : Int32} : gm_bl X d i e (.iinc 3 (6) :: l) (v0 :: v1 :: v2 :: .int x :: L) st h = gm_bl X d i e l (v0 :: v1 :: v2 :: .int (x + nI 6) :: L) st h := by
  show gm_b1 X d i (.iinc 3 (6)) (v0 :: v1 :: v2 :: .int x :: L) st h _ = _
  simp [gm_b1, gm_stp, gm_go, show Int32.ofInt (6) = (nI 6) by decide]
theorem bl_in4_1 {v0 v1 v2 v3 : Value} {x : Int32} : gm_bl X d i e (.iinc 4 (1) :: l) (v0 :: v1 :: v2 :: v3 :: .int x :: L) st h = gm_bl X d i e l (v0 :: v1 :: v2 :: v3 :: .int (x + nI 1) :: L) st h := by
  show gm_b1 X d i (.iinc 4 (1)) (v0 :: v1 :: v2 :: v3 :: .int x :: L) st h _ = _
  simp [gm_b1, gm_stp, gm_go, show Int32.ofInt (1) = (nI 1) by decide]
theorem bl_in4_10 {v0 v1 v2 v3 : Value} {x : Int32} : gm_bl X d i e (.iinc 4 (10) :: l) (v0 :: v1 :: v2 :: v3 :: .int x :: L) st h = gm_bl X d i e l (v0 :: v1 :: v2 :: v3 :: .int (x + nI 10) :: L) st h := by
  show gm_b1 X d i (.iinc 4 (10)) (v0 :: v1 :: v2 :: v3 :: .int x :: L) st h _ = _
  simp [gm_b1, gm_stp, gm_go, show Int32.ofInt (10) = (nI 10) by decide]
theorem bl_in5_1 {v0 v1 v2 v3 v4 : Value} {x : Int32} : gm_bl X d i e (.iinc 5 (1) :: l) (v0 :: v1 :: v2 :: v3 :: v4 :: .int x :: L) st h = gm_bl X d i e l (v0 :: v1 :: v2 :: v3 :: v4 :: .int (x + nI 1) :: L) st h := by
  show gm_b1 X d i (.iinc 5 (1)) (v0 :: v1 :: v2 :: v3 :: v4 :: .int x :: L) st h _ = _
  simp [gm_b1, gm_stp, gm_go, show Int32.ofInt (1) = (nI 1) by decide]
theorem bl_in5_10 {v0 v1 v2 v3 v4 : Value} {x : Int32} : gm_bl X d i e (.iinc 5 (10) :: l) (v0 :: v1 :: v2 :: v3 :: v4 :: .int x :: L) st h = gm_bl X d i e l (v0 :: v1 :: v2 :: v3 :: v4 :: .int (x + nI 10) :: L) st h := by
  show gm_b1 X d i (.iinc 5 (10)) (v0 :: v1 :: v2 :: v3 :: v4 :: .int x :: L) st h _ = _
  simp [gm_b1, gm_stp, gm_go, show Int32.ofInt (10) = (nI 10) by decide]
theorem bl_in6_1 {v0 v1 v2 v3 v4 v5 : Value} {x : Int32} : gm_bl X d i e (.iinc 6 (1) :: l) (v0 :: v1 :: v2 :: v3 :: v4 :: v5 :: .int x :: L) st h = gm_bl X d i e l (v0 :: v1 :: v2 :: v3 :: v4 :: v5 :: .int (x + nI 1) :: L) st h := by
  show gm_b1 X d i (.iinc 6 (1)) (v0 :: v1 :: v2 :: v3 :: v4 :: v5 :: .int x :: L) st h _ = _
  simp [gm_b1, gm_stp, gm_go, show Int32.ofInt (1) = (nI 1) by decide]
theorem bl_in7_m1 {v0 v1 v2 v3 v4 v5 v6 : Value} {x : Int32} : gm_bl X d i e (.iinc 7 (-1) :: l) (v0 :: v1 :: v2 :: v3 :: v4 :: v5 :: v6 :: .int x :: L) st h = gm_bl X d i e l (v0 :: v1 :: v2 :: v3 :: v4 :: v5 :: v6 :: .int (x + (-1)) :: L) st h := by
  show gm_b1 X d i (.iinc 7 (-1)) (v0 :: v1 :: v2 :: v3 :: v4 :: v5 :: v6 :: .int x :: L) st h _ = _
  simp [gm_b1, gm_stp, gm_go, show Int32.ofInt (-1) = ((-1)) by decide]
theorem bl_in7_1 {v0 v1 v2 v3 v4 v5 v6 : Value} {x : Int32} : gm_bl X d i e (.iinc 7 (1) :: l) (v0 :: v1 :: v2 :: v3 :: v4 :: v5 :: v6 :: .int x :: L) st h = gm_bl X d i e l (v0 :: v1 :: v2 :: v3 :: v4 :: v5 :: v6 :: .int (x + nI 1) :: L) st h := by
  show gm_b1 X d i (.iinc 7 (1)) (v0 :: v1 :: v2 :: v3 :: v4 :: v5 :: v6 :: .int x :: L) st h _ = _
  simp [gm_b1, gm_stp, gm_go, show Int32.ofInt (1) = (nI 1) by decide]
theorem bl_in8_1 {v0 v1 v2 v3 v4 v5 v6 v7 : Value} {x : Int32} : gm_bl X d i e (.iinc 8 (1) :: l) (v0 :: v1 :: v2 :: v3 :: v4 :: v5 :: v6 :: v7 :: .int x :: L) st h = gm_bl X d i e l (v0 :: v1 :: v2 :: v3 :: v4 :: v5 :: v6 :: v7 :: .int (x + nI 1) :: L) st h := by
  show gm_b1 X d i (.iinc 8 (1)) (v0 :: v1 :: v2 :: v3 :: v4 :: v5 :: v6 :: v7 :: .int x :: L) st h _ = _
  simp [gm_b1, gm_stp, gm_go, show Int32.ofInt (1) = (nI 1) by decide]
theorem bl_iadd {x y : Int32} : gm_bl X d i e (.iadd :: l) L (.int y :: .int x :: st) h = gm_bl X d i e l L (.int (x + y) :: st) h := rfl
theorem bl_isub {x y : Int32} : gm_bl X d i e (.isub :: l) L (.int y :: .int x :: st) h = gm_bl X d i e l L (.int (x - y) :: st) h := rfl
theorem bl_imul {x y : Int32} : gm_bl X d i e (.imul :: l) L (.int y :: .int x :: st) h = gm_bl X d i e l L (.int (x * y) :: st) h := rfl
theorem bl_iand {x y : Int32} : gm_bl X d i e (.iand :: l) L (.int y :: .int x :: st) h = gm_bl X d i e l L (.int (x &&& y) :: st) h := rfl
theorem bl_ishr {x y : Int32} : gm_bl X d i e (.ishr :: l) L (.int y :: .int x :: st) h = gm_bl X d i e l L (.int (x >>> (y &&& 31)) :: st) h := rfl
theorem bl_iushr {x y : Int32} : gm_bl X d i e (.iushr :: l) L (.int y :: .int x :: st) h = gm_bl X d i e l L (.int ((x.toUInt32 >>> (y.toUInt32 &&& Int32.toUInt32 31)).toInt32) :: st) h := rfl
theorem bl_ineg {x : Int32} : gm_bl X d i e (.ineg :: l) L (.int x :: st) h = gm_bl X d i e l L (.int (-x) :: st) h := rfl
theorem bl_i2s {x : Int32} : gm_bl X d i e (.i2s :: l) L (.int x :: st) h = gm_bl X d i e l L (.int (x.toInt16.toInt32) :: st) h := rfl
theorem bl_i2c {x : Int32} : gm_bl X d i e (.i2c :: l) L (.int x :: st) h = gm_bl X d i e l L (.int ((x.toUInt32 % 65536).toInt32) :: st) h := rfl
theorem bl_i2b {x : Int32} : gm_bl X d i e (.i2b :: l) L (.int x :: st) h = gm_bl X d i e l L (.int (x.toInt8.toInt32) :: st) h := rfl
theorem bl_i2l {x : Int32} : gm_bl X d i e (.i2l :: l) L (.int x :: st) h = gm_bl X d i e l L (.long x.toInt64 :: st) h := rfl
theorem bl_ladd {x y : Int64} : gm_bl X d i e (.ladd :: l) L (.long y :: .long x :: st) h = gm_bl X d i e l L (.long (x + y) :: st) h := rfl
theorem bl_lcmp {x y : Int64} : gm_bl X d i e (.lcmp :: l) L (.long y :: .long x :: st) h = gm_bl X d i e l L (.int (lg_cmp x y) :: st) h := rfl
theorem bl_idiv {x y : Int32} (hy : ¬ y = 0) : gm_bl X d i e (.idiv :: l) L (.int y :: .int x :: st) h = gm_bl X d i e l L (.int (x / y) :: st) h := by
  show gm_b1 X d i .idiv L (.int y :: .int x :: st) h _ = _
  simp [gm_b1, gm_stp, gm_go, hy]
theorem bl_irem {x y : Int32} (hy : ¬ y = 0) : gm_bl X d i e (.irem :: l) L (.int y :: .int x :: st) h = gm_bl X d i e l L (.int (x - x / y * y) :: st) h := by
  show gm_b1 X d i .irem L (.int y :: .int x :: st) h _ = _
  simp [gm_b1, gm_stp, gm_go, hy]
theorem bl_dupi {x : Int32} : gm_bl X d i e (.dup :: l) L (.int x :: st) h = gm_bl X d i e l L (.int x :: .int x :: st) h := rfl
theorem bl_popi {x : Int32} : gm_bl X d i e (.pop :: l) L (.int x :: st) h = gm_bl X d i e l L st h := rfl
theorem bl_dupr {x : Nat} : gm_bl X d i e (.dup :: l) L (.ref x :: st) h = gm_bl X d i e l L (.ref x :: .ref x :: st) h := rfl
theorem bl_popr {x : Nat} : gm_bl X d i e (.pop :: l) L (.ref x :: st) h = gm_bl X d i e l L st h := rfl
theorem bl_dup2 {x : Int32} {a : Nat} : gm_bl X d i e (.dup2 :: l) L (.int x :: .ref a :: st) h = gm_bl X d i e l L (.int x :: .ref a :: .int x :: .ref a :: st) h := rfl
theorem bl_goto {t : Int} : gm_bl X d i e (.goto t :: l) L st h = gm_ev X d i t.toNat L st h := rfl
theorem bl_ic_eq {x y : Int32} {t : Int} : gm_bl X d i e (.if_icmp .eq t :: l) L (.int y :: .int x :: st) h = if x = y then gm_ev X d i t.toNat L st h else gm_bl X d i e l L st h := by
  show (if gm_ic .eq x y then _ else _) = _
  by_cases q : x = y <;> simp [gm_ic, q]
theorem bl_if_eq {x : Int32} {t : Int} : gm_bl X d i e (.ifCond .eq t :: l) L (.int x :: st) h = if x = 0 then gm_ev X d i t.toNat L st h else gm_bl X d i e l L st h := by
  show (if gm_ic .eq x 0 then _ else _) = _
  by_cases q : x = 0 <;> simp [gm_ic, q]
theorem bl_ic_ne {x y : Int32} {t : Int} : gm_bl X d i e (.if_icmp .ne t :: l) L (.int y :: .int x :: st) h = if ¬ x = y then gm_ev X d i t.toNat L st h else gm_bl X d i e l L st h := by
  show (if gm_ic .ne x y then _ else _) = _
  by_cases q : ¬ x = y <;> simp [gm_ic, q]
theorem bl_if_ne {x : Int32} {t : Int} : gm_bl X d i e (.ifCond .ne t :: l) L (.int x :: st) h = if ¬ x = 0 then gm_ev X d i t.toNat L st h else gm_bl X d i e l L st h := by
  show (if gm_ic .ne x 0 then _ else _) = _
  by_cases q : ¬ x = 0 <;> simp [gm_ic, q]
theorem bl_ic_lt {x y : Int32} {t : Int} : gm_bl X d i e (.if_icmp .lt t :: l) L (.int y :: .int x :: st) h = if x < y then gm_ev X d i t.toNat L st h else gm_bl X d i e l L st h := by
  show (if gm_ic .lt x y then _ else _) = _
  by_cases q : x < y <;> simp [gm_ic, q]
theorem bl_if_lt {x : Int32} {t : Int} : gm_bl X d i e (.ifCond .lt t :: l) L (.int x :: st) h = if x < 0 then gm_ev X d i t.toNat L st h else gm_bl X d i e l L st h := by
  show (if gm_ic .lt x 0 then _ else _) = _
  by_cases q : x < 0 <;> simp [gm_ic, q]
theorem bl_ic_ge {x y : Int32} {t : Int} : gm_bl X d i e (.if_icmp .ge t :: l) L (.int y :: .int x :: st) h = if y ≤ x then gm_ev X d i t.toNat L st h else gm_bl X d i e l L st h := by
  show (if gm_ic .ge x y then _ else _) = _
  by_cases q : y ≤ x <;> simp [gm_ic, q]
theorem bl_if_ge {x : Int32} {t : Int} : gm_bl X d i e (.ifCond .ge t :: l) L (.int x :: st) h = if 0 ≤ x then gm_ev X d i t.toNat L st h else gm_bl X d i e l L st h := by
  show (if gm_ic .ge x 0 then _ else _) = _
  by_cases q : 0 ≤ x <;> simp [gm_ic, q]
theorem bl_ic_gt {x y : Int32} {t : Int} : gm_bl X d i e (.if_icmp .gt t :: l) L (.int y :: .int x :: st) h = if y < x then gm_ev X d i t.toNat L st h else gm_bl X d i e l L st h := by
  show (if gm_ic .gt x y then _ else _) = _
  by_cases q : y < x <;> simp [gm_ic, q]
theorem bl_if_gt {x : Int32} {t : Int} : gm_bl X d i e (.ifCond .gt t :: l) L (.int x :: st) h = if 0 < x then gm_ev X d i t.toNat L st h else gm_bl X d i e l L st h := by
  show (if gm_ic .gt x 0 then _ else _) = _
  by_cases q : 0 < x <;> simp [gm_ic, q]
theorem bl_ic_le {x y : Int32} {t : Int} : gm_bl X d i e (.if_icmp .le t :: l) L (.int y :: .int x :: st) h = if x ≤ y then gm_ev X d i t.toNat L st h else gm_bl X d i e l L st h := by
  show (if gm_ic .le x y then _ else _) = _
  by_cases q : x ≤ y <;> simp [gm_ic, q]
theorem bl_if_le {x : Int32} {t : Int} : gm_bl X d i e (.ifCond .le t :: l) L (.int x :: st) h = if x ≤ 0 then gm_ev X d i t.toNat L st h else gm_bl X d i e l L st h := by
  show (if gm_ic .le x 0 then _ else _) = _
  by_cases q : x ≤ 0 <;> simp [gm_ic, q]
theorem bl_nil : gm_bl X d i e [] L st h = gm_ev X d i e L st h := rfl
theorem bl_gf {a f : Nat} : gm_bl X d i e (.getfield f :: l) L (.ref a :: st) h = (gm_gf h a f).bind (fun v => gm_bl X d i e l L (v :: st) h) := by
  show gm_b1 X d i (.getfield f) L (.ref a :: st) h _ = _
  simp only [gm_b1, gm_stp]
  cases gm_gf h a f <;> rfl
theorem bl_pf {a f : Nat} {v : Value} : gm_bl X d i e (.putfield f :: l) L (v :: .ref a :: st) h = (gm_pf h a f v).bind (fun h' => gm_bl X d i e l L st h') := by
  show gm_b1 X d i (.putfield f) L (v :: .ref a :: st) h _ = _
  simp only [gm_b1, gm_stp]
  cases gm_pf h a f v <;> rfl
theorem bl_ial {a : Nat} {j : Int32} : gm_bl X d i e (.iaload :: l) L (.int j :: .ref a :: st) h = (gm_ial X h a j).bind (fun v => gm_bl X d i e l L (.int v :: st) h) := by
  show gm_b1 X d i .iaload L (.int j :: .ref a :: st) h _ = _
  simp only [gm_b1, gm_stp]
  cases gm_ial X h a j <;> rfl
theorem bl_bal {a : Nat} {j : Int32} : gm_bl X d i e (.baload :: l) L (.int j :: .ref a :: st) h = (gm_bal a j).bind (fun v => gm_bl X d i e l L (.int v :: st) h) := by
  show gm_b1 X d i .baload L (.int j :: .ref a :: st) h _ = _
  simp only [gm_b1, gm_stp]
  cases gm_bal a j <;> rfl
theorem bl_ias {a : Nat} {j v : Int32} : gm_bl X d i e (.iastore :: l) L (.int v :: .int j :: .ref a :: st) h = (gm_ias h a j v).bind (fun h' => gm_bl X d i e l L st h') := by
  show gm_b1 X d i .iastore L (.int v :: .int j :: .ref a :: st) h _ = _
  simp only [gm_b1, gm_stp]
  cases gm_ias h a j v <;> rfl
theorem bl_aal {a : Nat} {j : Int32} : gm_bl X d i e (.aaload :: l) L (.int j :: .ref a :: st) h = (gm_aal h a j).bind (fun v => gm_bl X d i e l L (v :: st) h) := by
  show gm_b1 X d i .aaload L (.int j :: .ref a :: st) h _ = _
  simp only [gm_b1, gm_stp]
  cases gm_aal h a j <;> rfl
theorem bl_len {a : Nat} : gm_bl X d i e (.arraylength :: l) L (.ref a :: st) h = (gm_len X h a).bind (fun n => gm_bl X d i e l L (.int (nI n) :: st) h) := by
  show gm_b1 X d i .arraylength L (.ref a :: st) h _ = _
  simp only [gm_b1, gm_stp]
  cases gm_len X h a <;> rfl
theorem bl_gs1 : gm_bl X d i e (.getstatic 1 :: l) L st h = gm_bl X d i e l L (.ref 10001 :: st) h := rfl
theorem bl_gs2 : gm_bl X d i e (.getstatic 2 :: l) L st h = gm_bl X d i e l L (.int (nI 1) :: st) h := rfl
theorem bl_gs3 : gm_bl X d i e (.getstatic 3 :: l) L st h = gm_bl X d i e l L (.ref 10050 :: st) h := rfl
theorem bl_acp {a b k : Nat} {s t n : Int32} (hs : (st.map (fun v => v.category)).sum ≤ 8) : gm_bl X d i e (.invokedynamic k :: l) L (.int n :: .int t :: .ref b :: .int s :: .ref a :: st) h = (gm_acp h a s b t n).bind (fun h' => gm_bl X d i e l L st h') := by
  show gm_b1 X d i (.invokedynamic k) L (.int n :: .int t :: .ref b :: .int s :: .ref a :: st) h _ = _
  simp only [gm_b1, gm_stp, if_pos hs]
  cases gm_acp h a s b t n <;> rfl
theorem bl_ri {v : Int32} (hr : gm_rt i = some .int) : gm_bl X d i e (.ireturn :: l) L [.int v] h = some (some (.int v), h) := by
  show gm_b1 X d i .ireturn L [.int v] h _ = _
  simp only [gm_b1, gm_stp, hr, show narrow .int (.int v) = .int v from rfl, if_true]
theorem bl_rz {c : Prop} [Decidable c] (hr : gm_rt i = some .boolean) : gm_bl X d i e (.ireturn :: l) L [.int (bI c)] h = some (some (.int (bI c)), h) := by
  show gm_b1 X d i .ireturn L [.int (bI c)] h _ = _
  simp only [gm_b1, gm_stp, hr, gm_nar_b, if_true]
theorem bl_rz1 (hr : gm_rt i = some .boolean) : gm_bl X d i e (.ireturn :: l) L [.int (nI 1)] h = some (some (.int (nI 1)), h) := by
  show gm_b1 X d i .ireturn L [.int (nI 1)] h _ = _
  simp only [gm_b1, gm_stp, hr, show narrow .boolean (.int (nI 1)) = .int (nI 1) from rfl, if_true]
theorem bl_rz0 (hr : gm_rt i = some .boolean) : gm_bl X d i e (.ireturn :: l) L [.int (nI 0)] h = some (some (.int (nI 0)), h) := by
  show gm_b1 X d i .ireturn L [.int (nI 0)] h _ = _
  simp only [gm_b1, gm_stp, hr, show narrow .boolean (.int (nI 0)) = .int (nI 0) from rfl, if_true]
theorem bl_rv (hr : gm_rt i = none) : gm_bl X d i e (.return_ :: l) L [] h = some (none, h) := by
  show gm_b1 X d i .return_ L [] h _ = _
  simp only [gm_b1, gm_stp, hr]
theorem bl_iv1 {j a : Nat} (hn : gm_na j = 1) (hc : gm_cls h a = gm_mc j) (hs : (st.map (fun v => v.category)).sum ≤ 8) : gm_bl X (d + 1) i e (.invokevirtual j :: l) L (.ref a :: st) h = (gm_cl' X d j [.ref a] h).bind (fun q => gm_bl X (d + 1) i e l L (q.1.toList ++ st) q.2) := by
  show gm_b1 X (d + 1) i (.invokevirtual j) L (.ref a :: st) h _ = _
  simp [gm_b1, gm_stp, hn, hc, gm_cal, hs, c1_r]
theorem bl_iv2 {j a : Nat} {v1 : Value} (hn : gm_na j = 2) (hv1 : gm_cat1 v1 = true) (hc : gm_cls h a = gm_mc j) (hs : (st.map (fun v => v.category)).sum ≤ 8) : gm_bl X (d + 1) i e (.invokevirtual j :: l) L (v1 :: .ref a :: st) h = (gm_cl' X d j [.ref a, v1] h).bind (fun q => gm_bl X (d + 1) i e l L (q.1.toList ++ st) q.2) := by
  show gm_b1 X (d + 1) i (.invokevirtual j) L (v1 :: .ref a :: st) h _ = _
  simp [gm_b1, gm_stp, hn, hc, gm_cal, hs, c1_r, hv1]
theorem bl_iv3 {j a : Nat} {v1 v2 : Value} (hn : gm_na j = 3) (hv1 : gm_cat1 v1 = true) (hv2 : gm_cat1 v2 = true) (hc : gm_cls h a = gm_mc j) (hs : (st.map (fun v => v.category)).sum ≤ 8) : gm_bl X (d + 1) i e (.invokevirtual j :: l) L (v2 :: v1 :: .ref a :: st) h = (gm_cl' X d j [.ref a, v1, v2] h).bind (fun q => gm_bl X (d + 1) i e l L (q.1.toList ++ st) q.2) := by
  show gm_b1 X (d + 1) i (.invokevirtual j) L (v2 :: v1 :: .ref a :: st) h _ = _
  simp [gm_b1, gm_stp, hn, hc, gm_cal, hs, c1_r, hv1, hv2]
theorem bl_iv4 {j a : Nat} {v1 v2 v3 : Value} (hn : gm_na j = 4) (hv1 : gm_cat1 v1 = true) (hv2 : gm_cat1 v2 = true) (hv3 : gm_cat1 v3 = true) (hc : gm_cls h a = gm_mc j) (hs : (st.map (fun v => v.category)).sum ≤ 8) : gm_bl X (d + 1) i e (.invokevirtual j :: l) L (v3 :: v2 :: v1 :: .ref a :: st) h = (gm_cl' X d j [.ref a, v1, v2, v3] h).bind (fun q => gm_bl X (d + 1) i e l L (q.1.toList ++ st) q.2) := by
  show gm_b1 X (d + 1) i (.invokevirtual j) L (v3 :: v2 :: v1 :: .ref a :: st) h _ = _
  simp [gm_b1, gm_stp, hn, hc, gm_cal, hs, c1_r, hv1, hv2, hv3]
theorem bl_iv5 {j a : Nat} {v1 v2 v3 v4 : Value} (hn : gm_na j = 5) (hv1 : gm_cat1 v1 = true) (hv2 : gm_cat1 v2 = true) (hv3 : gm_cat1 v3 = true) (hv4 : gm_cat1 v4 = true) (hc : gm_cls h a = gm_mc j) (hs : (st.map (fun v => v.category)).sum ≤ 8) : gm_bl X (d + 1) i e (.invokevirtual j :: l) L (v4 :: v3 :: v2 :: v1 :: .ref a :: st) h = (gm_cl' X d j [.ref a, v1, v2, v3, v4] h).bind (fun q => gm_bl X (d + 1) i e l L (q.1.toList ++ st) q.2) := by
  show gm_b1 X (d + 1) i (.invokevirtual j) L (v4 :: v3 :: v2 :: v1 :: .ref a :: st) h _ = _
  simp [gm_b1, gm_stp, hn, hc, gm_cal, hs, c1_r, hv1, hv2, hv3, hv4]
theorem bl_iv6 {j a : Nat} {v1 v2 v3 v4 v5 : Value} (hn : gm_na j = 6) (hv1 : gm_cat1 v1 = true) (hv2 : gm_cat1 v2 = true) (hv3 : gm_cat1 v3 = true) (hv4 : gm_cat1 v4 = true) (hv5 : gm_cat1 v5 = true) (hc : gm_cls h a = gm_mc j) (hs : (st.map (fun v => v.category)).sum ≤ 8) : gm_bl X (d + 1) i e (.invokevirtual j :: l) L (v5 :: v4 :: v3 :: v2 :: v1 :: .ref a :: st) h = (gm_cl' X d j [.ref a, v1, v2, v3, v4, v5] h).bind (fun q => gm_bl X (d + 1) i e l L (q.1.toList ++ st) q.2) := by
  show gm_b1 X (d + 1) i (.invokevirtual j) L (v5 :: v4 :: v3 :: v2 :: v1 :: .ref a :: st) h _ = _
  simp [gm_b1, gm_stp, hn, hc, gm_cal, hs, c1_r, hv1, hv2, hv3, hv4, hv5]
theorem bl_is_0 {j : Nat} (hn : gm_na j = 0) (hs : (st.map (fun v => v.category)).sum ≤ 8) : gm_bl X (d + 1) i e (.invokestatic j :: l) L (st) h = (gm_cl' X d j [] h).bind (fun q => gm_bl X (d + 1) i e l L (q.1.toList ++ st) q.2) := by
  show gm_b1 X (d + 1) i (.invokestatic j) L (st) h _ = _
  simp [gm_b1, gm_stp, hn, gm_cal, hs, c1_r]
theorem bl_ii_0 {j : Nat} (hn : gm_na j = 0) (hs : (st.map (fun v => v.category)).sum ≤ 8) : gm_bl X (d + 1) i e (.invokeinterface j 0 :: l) L (st) h = (gm_cl' X d j [] h).bind (fun q => gm_bl X (d + 1) i e l L (q.1.toList ++ st) q.2) := by
  show gm_b1 X (d + 1) i (.invokeinterface j 0) L (st) h _ = _
  simp [gm_b1, gm_stp, hn, gm_cal, hs, c1_r]
theorem bl_is_1 {j : Nat} {v0 : Value} (hn : gm_na j = 1) (hv0 : gm_cat1 v0 = true) (hs : (st.map (fun v => v.category)).sum ≤ 8) : gm_bl X (d + 1) i e (.invokestatic j :: l) L (v0 :: st) h = (gm_cl' X d j [v0] h).bind (fun q => gm_bl X (d + 1) i e l L (q.1.toList ++ st) q.2) := by
  show gm_b1 X (d + 1) i (.invokestatic j) L (v0 :: st) h _ = _
  simp [gm_b1, gm_stp, hn, gm_cal, hs, c1_r, hv0]
theorem bl_ii_1 {j : Nat} {v0 : Value} (hn : gm_na j = 1) (hv0 : gm_cat1 v0 = true) (hs : (st.map (fun v => v.category)).sum ≤ 8) : gm_bl X (d + 1) i e (.invokeinterface j 0 :: l) L (v0 :: st) h = (gm_cl' X d j [v0] h).bind (fun q => gm_bl X (d + 1) i e l L (q.1.toList ++ st) q.2) := by
  show gm_b1 X (d + 1) i (.invokeinterface j 0) L (v0 :: st) h _ = _
  simp [gm_b1, gm_stp, hn, gm_cal, hs, c1_r, hv0]
theorem bl_is_2 {j : Nat} {v0 v1 : Value} (hn : gm_na j = 2) (hv0 : gm_cat1 v0 = true) (hv1 : gm_cat1 v1 = true) (hs : (st.map (fun v => v.category)).sum ≤ 8) : gm_bl X (d + 1) i e (.invokestatic j :: l) L (v1 :: v0 :: st) h = (gm_cl' X d j [v0, v1] h).bind (fun q => gm_bl X (d + 1) i e l L (q.1.toList ++ st) q.2) := by
  show gm_b1 X (d + 1) i (.invokestatic j) L (v1 :: v0 :: st) h _ = _
  simp [gm_b1, gm_stp, hn, gm_cal, hs, c1_r, hv0, hv1]
theorem bl_ii_2 {j : Nat} {v0 v1 : Value} (hn : gm_na j = 2) (hv0 : gm_cat1 v0 = true) (hv1 : gm_cat1 v1 = true) (hs : (st.map (fun v => v.category)).sum ≤ 8) : gm_bl X (d + 1) i e (.invokeinterface j 0 :: l) L (v1 :: v0 :: st) h = (gm_cl' X d j [v0, v1] h).bind (fun q => gm_bl X (d + 1) i e l L (q.1.toList ++ st) q.2) := by
  show gm_b1 X (d + 1) i (.invokeinterface j 0) L (v1 :: v0 :: st) h _ = _
  simp [gm_b1, gm_stp, hn, gm_cal, hs, c1_r, hv0, hv1]
theorem bl_is_3 {j : Nat} {v0 v1 v2 : Value} (hn : gm_na j = 3) (hv0 : gm_cat1 v0 = true) (hv1 : gm_cat1 v1 = true) (hv2 : gm_cat1 v2 = true) (hs : (st.map (fun v => v.category)).sum ≤ 8) : gm_bl X (d + 1) i e (.invokestatic j :: l) L (v2 :: v1 :: v0 :: st) h = (gm_cl' X d j [v0, v1, v2] h).bind (fun q => gm_bl X (d + 1) i e l L (q.1.toList ++ st) q.2) := by
  show gm_b1 X (d + 1) i (.invokestatic j) L (v2 :: v1 :: v0 :: st) h _ = _
  simp [gm_b1, gm_stp, hn, gm_cal, hs, c1_r, hv0, hv1, hv2]
theorem bl_ii_3 {j : Nat} {v0 v1 v2 : Value} (hn : gm_na j = 3) (hv0 : gm_cat1 v0 = true) (hv1 : gm_cat1 v1 = true) (hv2 : gm_cat1 v2 = true) (hs : (st.map (fun v => v.category)).sum ≤ 8) : gm_bl X (d + 1) i e (.invokeinterface j 0 :: l) L (v2 :: v1 :: v0 :: st) h = (gm_cl' X d j [v0, v1, v2] h).bind (fun q => gm_bl X (d + 1) i e l L (q.1.toList ++ st) q.2) := by
  show gm_b1 X (d + 1) i (.invokeinterface j 0) L (v2 :: v1 :: v0 :: st) h _ = _
  simp [gm_b1, gm_stp, hn, gm_cal, hs, c1_r, hv0, hv1, hv2]
theorem bl_is_4 {j : Nat} {v0 v1 v2 v3 : Value} (hn : gm_na j = 4) (hv0 : gm_cat1 v0 = true) (hv1 : gm_cat1 v1 = true) (hv2 : gm_cat1 v2 = true) (hv3 : gm_cat1 v3 = true) (hs : (st.map (fun v => v.category)).sum ≤ 8) : gm_bl X (d + 1) i e (.invokestatic j :: l) L (v3 :: v2 :: v1 :: v0 :: st) h = (gm_cl' X d j [v0, v1, v2, v3] h).bind (fun q => gm_bl X (d + 1) i e l L (q.1.toList ++ st) q.2) := by
  show gm_b1 X (d + 1) i (.invokestatic j) L (v3 :: v2 :: v1 :: v0 :: st) h _ = _
  simp [gm_b1, gm_stp, hn, gm_cal, hs, c1_r, hv0, hv1, hv2, hv3]
theorem bl_ii_4 {j : Nat} {v0 v1 v2 v3 : Value} (hn : gm_na j = 4) (hv0 : gm_cat1 v0 = true) (hv1 : gm_cat1 v1 = true) (hv2 : gm_cat1 v2 = true) (hv3 : gm_cat1 v3 = true) (hs : (st.map (fun v => v.category)).sum ≤ 8) : gm_bl X (d + 1) i e (.invokeinterface j 0 :: l) L (v3 :: v2 :: v1 :: v0 :: st) h = (gm_cl' X d j [v0, v1, v2, v3] h).bind (fun q => gm_bl X (d + 1) i e l L (q.1.toList ++ st) q.2) := by
  show gm_b1 X (d + 1) i (.invokeinterface j 0) L (v3 :: v2 :: v1 :: v0 :: st) h _ = _
  simp [gm_b1, gm_stp, hn, gm_cal, hs, c1_r, hv0, hv1, hv2, hv3]
end BL
