-- facts of the methods, and their blocks
theorem gm_swi {x k : Int32} {kk : Int} (hk : k.toInt = kk) : (x.toInt = kk) = (x = k) := by
  apply propext
  constructor
  · intro q; exact Int32.toInt_inj.mp (by rw [q, hk])
  · intro q; rw [q, hk]
theorem bl_sw {X : List Int32} {d i e : Nat} {l : List Instr} {L st : List Value} {h : gm_H} {dd : Int} {ps : Array (Int × Int)} {x : Int32} : gm_bl X d i e (.lookupswitch dd ps :: l) L (.int x :: st) h = gm_ev X d i (gm_sw dd x.toInt ps.toList).toNat L st h := rfl
theorem ev_sw1 {X : List Int32} {d i : Nat} {L st : List Value} {h : gm_H} {dd x k t : Int} {r : List (Int × Int)} : gm_ev X d i (gm_sw dd x ((k, t) :: r)).toNat L st h = if x = k then gm_ev X d i t.toNat L st h else gm_ev X d i (gm_sw dd x r).toNat L st h := by
  show gm_ev X d i (if x = k then t else gm_sw dd x r).toNat L st h = _
  by_cases q : x = k
  · rw [if_pos q, if_pos q]
  · rw [if_neg q, if_neg q]
theorem ev_sw0 {X : List Int32} {d i : Nat} {L st : List Value} {h : gm_H} {dd x : Int} : gm_ev X d i (gm_sw dd x []).toNat L st h = gm_ev X d i dd.toNat L st h := rfl
theorem ti_m27 {x : Int32} : (x.toInt = -27) = (x = (-27)) := gm_swi (by decide)
theorem ti_m26 {x : Int32} : (x.toInt = -26) = (x = (-26)) := gm_swi (by decide)
theorem ti_m25 {x : Int32} : (x.toInt = -25) = (x = (-25)) := gm_swi (by decide)
theorem ti_m24 {x : Int32} : (x.toInt = -24) = (x = (-24)) := gm_swi (by decide)
theorem ti_m23 {x : Int32} : (x.toInt = -23) = (x = (-23)) := gm_swi (by decide)
theorem ti_m22 {x : Int32} : (x.toInt = -22) = (x = (-22)) := gm_swi (by decide)
theorem ti_m21 {x : Int32} : (x.toInt = -21) = (x = (-21)) := gm_swi (by decide)
theorem ti_m20 {x : Int32} : (x.toInt = -20) = (x = (-20)) := gm_swi (by decide)
theorem ti_0 {x : Int32} : (x.toInt = 0) = (x = nI 0) := gm_swi (by decide)
theorem ti_1 {x : Int32} : (x.toInt = 1) = (x = nI 1) := gm_swi (by decide)
theorem ti_2 {x : Int32} : (x.toInt = 2) = (x = nI 2) := gm_swi (by decide)
theorem ti_3 {x : Int32} : (x.toInt = 3) = (x = nI 3) := gm_swi (by decide)
theorem ti_4 {x : Int32} : (x.toInt = 4) = (x = nI 4) := gm_swi (by decide)
theorem ti_5 {x : Int32} : (x.toInt = 5) = (x = nI 5) := gm_swi (by decide)
theorem ti_6 {x : Int32} : (x.toInt = 6) = (x = nI 6) := gm_swi (by decide)
theorem ti_7 {x : Int32} : (x.toInt = 7) = (x = nI 7) := gm_swi (by decide)
theorem ti_8 {x : Int32} : (x.toInt = 8) = (x = nI 8) := gm_swi (by decide)
theorem ti_9 {x : Int32} : (x.toInt = 9) = (x = nI 9) := gm_swi (by decide)
theorem ti_10 {x : Int32} : (x.toInt = 10) = (x = nI 10) := gm_swi (by decide)
theorem ti_11 {x : Int32} : (x.toInt = 11) = (x = nI 11) := gm_swi (by decide)
theorem ti_12 {x : Int32} : (x.toInt = 12) = (x = nI 12) := gm_swi (by decide)
theorem ti_13 {x : Int32} : (x.toInt = 13) = (x = nI 13) := gm_swi (by decide)
theorem ti_14 {x : Int32} : (x.toInt = 14) = (x = nI 14) := gm_swi (by decide)
theorem ti_15 {x : Int32} : (x.toInt = 15) = (x = nI 15) := gm_swi (by decide)
theorem ti_16 {x : Int32} : (x.toInt = 16) = (x = nI 16) := gm_swi (by decide)
theorem ti_17 {x : Int32} : (x.toInt = 17) = (x = nI 17) := gm_swi (by decide)
theorem ti_18 {x : Int32} : (x.toInt = 18) = (x = nI 18) := gm_swi (by decide)
theorem ti_19 {x : Int32} : (x.toInt = 19) = (x = nI 19) := gm_swi (by decide)
theorem ti_20 {x : Int32} : (x.toInt = 20) = (x = nI 20) := gm_swi (by decide)
theorem ti_21 {x : Int32} : (x.toInt = 21) = (x = nI 21) := gm_swi (by decide)
theorem ti_22 {x : Int32} : (x.toInt = 22) = (x = nI 22) := gm_swi (by decide)
theorem ti_23 {x : Int32} : (x.toInt = 23) = (x = nI 23) := gm_swi (by decide)
theorem ti_24 {x : Int32} : (x.toInt = 24) = (x = nI 24) := gm_swi (by decide)
theorem ti_25 {x : Int32} : (x.toInt = 25) = (x = nI 25) := gm_swi (by decide)
theorem ti_26 {x : Int32} : (x.toInt = 26) = (x = nI 26) := gm_swi (by decide)
theorem ti_27 {x : Int32} : (x.toInt = 27) = (x = nI 27) := gm_swi (by decide)
theorem ti_28 {x : Int32} : (x.toInt = 28) = (x = nI 28) := gm_swi (by decide)
theorem ti_29 {x : Int32} : (x.toInt = 29) = (x = nI 29) := gm_swi (by decide)
theorem ti_30 {x : Int32} : (x.toInt = 30) = (x = nI 30) := gm_swi (by decide)
theorem ti_31 {x : Int32} : (x.toInt = 31) = (x = nI 31) := gm_swi (by decide)
theorem ti_32 {x : Int32} : (x.toInt = 32) = (x = nI 32) := gm_swi (by decide)
theorem ti_33 {x : Int32} : (x.toInt = 33) = (x = nI 33) := gm_swi (by decide)
theorem ti_34 {x : Int32} : (x.toInt = 34) = (x = nI 34) := gm_swi (by decide)
theorem ti_35 {x : Int32} : (x.toInt = 35) = (x = nI 35) := gm_swi (by decide)
theorem ti_36 {x : Int32} : (x.toInt = 36) = (x = nI 36) := gm_swi (by decide)
theorem ti_37 {x : Int32} : (x.toInt = 37) = (x = nI 37) := gm_swi (by decide)
theorem ti_38 {x : Int32} : (x.toInt = 38) = (x = nI 38) := gm_swi (by decide)
theorem ti_39 {x : Int32} : (x.toInt = 39) = (x = nI 39) := gm_swi (by decide)
theorem ti_40 {x : Int32} : (x.toInt = 40) = (x = nI 40) := gm_swi (by decide)
theorem ti_41 {x : Int32} : (x.toInt = 41) = (x = nI 41) := gm_swi (by decide)
theorem ti_42 {x : Int32} : (x.toInt = 42) = (x = nI 42) := gm_swi (by decide)
theorem ti_43 {x : Int32} : (x.toInt = 43) = (x = nI 43) := gm_swi (by decide)
theorem ti_45 {x : Int32} : (x.toInt = 45) = (x = nI 45) := gm_swi (by decide)
theorem ti_47 {x : Int32} : (x.toInt = 47) = (x = nI 47) := gm_swi (by decide)
theorem ti_60 {x : Int32} : (x.toInt = 60) = (x = nI 60) := gm_swi (by decide)
theorem ti_61 {x : Int32} : (x.toInt = 61) = (x = nI 61) := gm_swi (by decide)
theorem ti_62 {x : Int32} : (x.toInt = 62) = (x = nI 62) := gm_swi (by decide)
theorem ti_124 {x : Int32} : (x.toInt = 124) = (x = nI 124) := gm_swi (by decide)
theorem na_0 : gm_na 0 = 1 := by decide +kernel
theorem rt_0 : gm_rt 0 = none := by decide +kernel
theorem mc_0 : gm_mc 0 = 0 := by decide +kernel
theorem na_1 : gm_na 1 = 2 := by decide +kernel
theorem rt_1 : gm_rt 1 = none := by decide +kernel
theorem mc_1 : gm_mc 1 = 0 := by decide +kernel
theorem cl_1 {X : List Int32} {d : Nat} {v0 v1 : Value} {h : gm_H} : gm_cl' X d 1 [v0, v1] h = gm_ev X d 1 0 [v0, v1] [] h := by
  unfold gm_cl' gm_ent
  rw [show gm_ml 1 = 2 by decide +kernel]
  rfl
theorem na_2 : gm_na 2 = 1 := by decide +kernel
theorem rt_2 : gm_rt 2 = none := by decide +kernel
theorem mc_2 : gm_mc 2 = 1 := by decide +kernel
theorem na_3 : gm_na 3 = 2 := by decide +kernel
theorem rt_3 : gm_rt 3 = none := by decide +kernel
theorem mc_3 : gm_mc 3 = 1 := by decide +kernel
theorem cl_3 {X : List Int32} {d : Nat} {v0 v1 : Value} {h : gm_H} : gm_cl' X d 3 [v0, v1] h = gm_ev X d 3 0 [v0, v1] [] h := by
  unfold gm_cl' gm_ent
  rw [show gm_ml 3 = 2 by decide +kernel]
  rfl
theorem na_4 : gm_na 4 = 2 := by decide +kernel
theorem rt_4 : gm_rt 4 = (some .boolean) := by decide +kernel
theorem mc_4 : gm_mc 4 = 1 := by decide +kernel
theorem cl_4 {X : List Int32} {d : Nat} {v0 v1 : Value} {h : gm_H} : gm_cl' X d 4 [v0, v1] h = gm_ev X d 4 0 [v0, v1, .retAddr 0, .retAddr 0] [] h := by
  unfold gm_cl' gm_ent
  rw [show gm_ml 4 = 4 by decide +kernel]
  rfl
theorem na_5 : gm_na 5 = 1 := by decide +kernel
theorem rt_5 : gm_rt 5 = (some .int) := by decide +kernel
theorem mc_5 : gm_mc 5 = 1 := by decide +kernel
theorem cl_5 {X : List Int32} {d : Nat} {v0 : Value} {h : gm_H} : gm_cl' X d 5 [v0] h = gm_ev X d 5 0 [v0] [] h := by
  unfold gm_cl' gm_ent
  rw [show gm_ml 5 = 1 by decide +kernel]
  rfl
theorem na_6 : gm_na 6 = 2 := by decide +kernel
theorem rt_6 : gm_rt 6 = (some .int) := by decide +kernel
theorem mc_6 : gm_mc 6 = 1 := by decide +kernel
theorem cl_6 {X : List Int32} {d : Nat} {v0 v1 : Value} {h : gm_H} : gm_cl' X d 6 [v0, v1] h = gm_ev X d 6 0 [v0, v1] [] h := by
  unfold gm_cl' gm_ent
  rw [show gm_ml 6 = 2 by decide +kernel]
  rfl
theorem na_7 : gm_na 7 = 2 := by decide +kernel
theorem rt_7 : gm_rt 7 = (some .int) := by decide +kernel
theorem mc_7 : gm_mc 7 = 1 := by decide +kernel
theorem cl_7 {X : List Int32} {d : Nat} {v0 v1 : Value} {h : gm_H} : gm_cl' X d 7 [v0, v1] h = gm_ev X d 7 0 [v0, v1] [] h := by
  unfold gm_cl' gm_ent
  rw [show gm_ml 7 = 2 by decide +kernel]
  rfl
theorem na_8 : gm_na 8 = 1 := by decide +kernel
theorem rt_8 : gm_rt 8 = (some .int) := by decide +kernel
theorem mc_8 : gm_mc 8 = 1 := by decide +kernel
theorem cl_8 {X : List Int32} {d : Nat} {v0 : Value} {h : gm_H} : gm_cl' X d 8 [v0] h = gm_ev X d 8 0 [v0] [] h := by
  unfold gm_cl' gm_ent
  rw [show gm_ml 8 = 1 by decide +kernel]
  rfl
theorem na_9 : gm_na 9 = 2 := by decide +kernel
theorem rt_9 : gm_rt 9 = none := by decide +kernel
theorem mc_9 : gm_mc 9 = 2 := by decide +kernel
theorem na_10 : gm_na 10 = 2 := by decide +kernel
theorem rt_10 : gm_rt 10 = none := by decide +kernel
theorem mc_10 : gm_mc 10 = 2 := by decide +kernel
theorem cl_10 {X : List Int32} {d : Nat} {v0 v1 : Value} {h : gm_H} : gm_cl' X d 10 [v0, v1] h = gm_ev X d 10 0 [v0, v1, .retAddr 0] [] h := by
  unfold gm_cl' gm_ent
  rw [show gm_ml 10 = 3 by decide +kernel]
  rfl
theorem na_11 : gm_na 11 = 4 := by decide +kernel
theorem rt_11 : gm_rt 11 = none := by decide +kernel
theorem mc_11 : gm_mc 11 = 2 := by decide +kernel
theorem cl_11 {X : List Int32} {d : Nat} {v0 v1 v2 v3 : Value} {h : gm_H} : gm_cl' X d 11 [v0, v1, v2, v3] h = gm_ev X d 11 0 [v0, v1, v2, v3, .retAddr 0] [] h := by
  unfold gm_cl' gm_ent
  rw [show gm_ml 11 = 5 by decide +kernel]
  rfl
theorem na_12 : gm_na 12 = 2 := by decide +kernel
theorem rt_12 : gm_rt 12 = none := by decide +kernel
theorem mc_12 : gm_mc 12 = 2 := by decide +kernel
theorem cl_12 {X : List Int32} {d : Nat} {v0 v1 : Value} {h : gm_H} : gm_cl' X d 12 [v0, v1] h = gm_ev X d 12 0 [v0, v1, .retAddr 0] [] h := by
  unfold gm_cl' gm_ent
  rw [show gm_ml 12 = 3 by decide +kernel]
  rfl
theorem na_13 : gm_na 13 = 1 := by decide +kernel
theorem rt_13 : gm_rt 13 = (some .int) := by decide +kernel
theorem mc_13 : gm_mc 13 = 2 := by decide +kernel
theorem cl_13 {X : List Int32} {d : Nat} {v0 : Value} {h : gm_H} : gm_cl' X d 13 [v0] h = gm_ev X d 13 0 [v0] [] h := by
  unfold gm_cl' gm_ent
  rw [show gm_ml 13 = 1 by decide +kernel]
  rfl
theorem na_14 : gm_na 14 = 2 := by decide +kernel
theorem rt_14 : gm_rt 14 = none := by decide +kernel
theorem mc_14 : gm_mc 14 = 2 := by decide +kernel
theorem cl_14 {X : List Int32} {d : Nat} {v0 v1 : Value} {h : gm_H} : gm_cl' X d 14 [v0, v1] h = gm_ev X d 14 0 [v0, v1, .retAddr 0] [] h := by
  unfold gm_cl' gm_ent
  rw [show gm_ml 14 = 3 by decide +kernel]
  rfl
theorem na_15 : gm_na 15 = 1 := by decide +kernel
theorem rt_15 : gm_rt 15 = none := by decide +kernel
theorem mc_15 : gm_mc 15 = 2 := by decide +kernel
theorem cl_15 {X : List Int32} {d : Nat} {v0 : Value} {h : gm_H} : gm_cl' X d 15 [v0] h = gm_ev X d 15 0 [v0, .retAddr 0, .retAddr 0, .retAddr 0] [] h := by
  unfold gm_cl' gm_ent
  rw [show gm_ml 15 = 4 by decide +kernel]
  rfl
theorem na_16 : gm_na 16 = 2 := by decide +kernel
theorem rt_16 : gm_rt 16 = (some .int) := by decide +kernel
theorem mc_16 : gm_mc 16 = 2 := by decide +kernel
theorem cl_16 {X : List Int32} {d : Nat} {v0 v1 : Value} {h : gm_H} : gm_cl' X d 16 [v0, v1] h = gm_ev X d 16 0 [v0, v1, .retAddr 0, .retAddr 0, .retAddr 0, .retAddr 0, .retAddr 0] [] h := by
  unfold gm_cl' gm_ent
  rw [show gm_ml 16 = 7 by decide +kernel]
  rfl
theorem na_17 : gm_na 17 = 3 := by decide +kernel
theorem rt_17 : gm_rt 17 = (some .int) := by decide +kernel
theorem mc_17 : gm_mc 17 = 2 := by decide +kernel
theorem cl_17 {X : List Int32} {d : Nat} {v0 v1 v2 : Value} {h : gm_H} : gm_cl' X d 17 [v0, v1, v2] h = gm_ev X d 17 0 [v0, v1, v2, .retAddr 0, .retAddr 0] [] h := by
  unfold gm_cl' gm_ent
  rw [show gm_ml 17 = 5 by decide +kernel]
  rfl
theorem na_18 : gm_na 18 = 1 := by decide +kernel
theorem rt_18 : gm_rt 18 = none := by decide +kernel
theorem mc_18 : gm_mc 18 = 2 := by decide +kernel
theorem cl_18 {X : List Int32} {d : Nat} {v0 : Value} {h : gm_H} : gm_cl' X d 18 [v0] h = gm_ev X d 18 0 [v0, .retAddr 0, .retAddr 0, .retAddr 0] [] h := by
  unfold gm_cl' gm_ent
  rw [show gm_ml 18 = 4 by decide +kernel]
  rfl
theorem na_19 : gm_na 19 = 2 := by decide +kernel
theorem rt_19 : gm_rt 19 = (some .int) := by decide +kernel
theorem mc_19 : gm_mc 19 = 2 := by decide +kernel
theorem cl_19 {X : List Int32} {d : Nat} {v0 v1 : Value} {h : gm_H} : gm_cl' X d 19 [v0, v1] h = gm_ev X d 19 0 [v0, v1, .retAddr 0, .retAddr 0] [] h := by
  unfold gm_cl' gm_ent
  rw [show gm_ml 19 = 4 by decide +kernel]
  rfl
theorem na_20 : gm_na 20 = 1 := by decide +kernel
theorem rt_20 : gm_rt 20 = none := by decide +kernel
theorem mc_20 : gm_mc 20 = 2 := by decide +kernel
theorem cl_20 {X : List Int32} {d : Nat} {v0 : Value} {h : gm_H} : gm_cl' X d 20 [v0] h = gm_ev X d 20 0 [v0, .retAddr 0, .retAddr 0, .retAddr 0] [] h := by
  unfold gm_cl' gm_ent
  rw [show gm_ml 20 = 4 by decide +kernel]
  rfl
theorem na_21 : gm_na 21 = 2 := by decide +kernel
theorem rt_21 : gm_rt 21 = (some .int) := by decide +kernel
theorem mc_21 : gm_mc 21 = 2 := by decide +kernel
theorem cl_21 {X : List Int32} {d : Nat} {v0 v1 : Value} {h : gm_H} : gm_cl' X d 21 [v0, v1] h = gm_ev X d 21 0 [v0, v1, .retAddr 0, .retAddr 0, .retAddr 0] [] h := by
  unfold gm_cl' gm_ent
  rw [show gm_ml 21 = 5 by decide +kernel]
  rfl
theorem na_22 : gm_na 22 = 1 := by decide +kernel
theorem rt_22 : gm_rt 22 = (some .boolean) := by decide +kernel
theorem mc_22 : gm_mc 22 = 2 := by decide +kernel
theorem cl_22 {X : List Int32} {d : Nat} {v0 : Value} {h : gm_H} : gm_cl' X d 22 [v0] h = gm_ev X d 22 0 [v0, .retAddr 0] [] h := by
  unfold gm_cl' gm_ent
  rw [show gm_ml 22 = 2 by decide +kernel]
  rfl
theorem na_23 : gm_na 23 = 1 := by decide +kernel
theorem rt_23 : gm_rt 23 = (some .int) := by decide +kernel
theorem mc_23 : gm_mc 23 = 2 := by decide +kernel
theorem cl_23 {X : List Int32} {d : Nat} {v0 : Value} {h : gm_H} : gm_cl' X d 23 [v0] h = gm_ev X d 23 0 [v0, .retAddr 0, .retAddr 0] [] h := by
  unfold gm_cl' gm_ent
  rw [show gm_ml 23 = 3 by decide +kernel]
  rfl
theorem na_24 : gm_na 24 = 1 := by decide +kernel
theorem rt_24 : gm_rt 24 = (some .int) := by decide +kernel
theorem mc_24 : gm_mc 24 = 2 := by decide +kernel
theorem cl_24 {X : List Int32} {d : Nat} {v0 : Value} {h : gm_H} : gm_cl' X d 24 [v0] h = gm_ev X d 24 0 [v0, .retAddr 0, .retAddr 0] [] h := by
  unfold gm_cl' gm_ent
  rw [show gm_ml 24 = 3 by decide +kernel]
  rfl
theorem na_25 : gm_na 25 = 1 := by decide +kernel
theorem rt_25 : gm_rt 25 = (some .int) := by decide +kernel
theorem mc_25 : gm_mc 25 = 2 := by decide +kernel
theorem cl_25 {X : List Int32} {d : Nat} {v0 : Value} {h : gm_H} : gm_cl' X d 25 [v0] h = gm_ev X d 25 0 [v0, .retAddr 0, .retAddr 0] [] h := by
  unfold gm_cl' gm_ent
  rw [show gm_ml 25 = 3 by decide +kernel]
  rfl
theorem na_26 : gm_na 26 = 3 := by decide +kernel
theorem rt_26 : gm_rt 26 = none := by decide +kernel
theorem mc_26 : gm_mc 26 = 3 := by decide +kernel
theorem na_27 : gm_na 27 = 2 := by decide +kernel
theorem rt_27 : gm_rt 27 = (some .boolean) := by decide +kernel
theorem mc_27 : gm_mc 27 = 3 := by decide +kernel
theorem cl_27 {X : List Int32} {d : Nat} {v0 v1 : Value} {h : gm_H} : gm_cl' X d 27 [v0, v1] h = gm_ev X d 27 0 [v0, v1] [] h := by
  unfold gm_cl' gm_ent
  rw [show gm_ml 27 = 2 by decide +kernel]
  rfl
theorem na_28 : gm_na 28 = 3 := by decide +kernel
theorem rt_28 : gm_rt 28 = none := by decide +kernel
theorem mc_28 : gm_mc 28 = 3 := by decide +kernel
theorem cl_28 {X : List Int32} {d : Nat} {v0 v1 v2 : Value} {h : gm_H} : gm_cl' X d 28 [v0, v1, v2] h = gm_ev X d 28 0 [v0, v1, v2] [] h := by
  unfold gm_cl' gm_ent
  rw [show gm_ml 28 = 3 by decide +kernel]
  rfl
theorem na_29 : gm_na 29 = 4 := by decide +kernel
theorem rt_29 : gm_rt 29 = (some .boolean) := by decide +kernel
theorem mc_29 : gm_mc 29 = 3 := by decide +kernel
theorem cl_29 {X : List Int32} {d : Nat} {v0 v1 v2 v3 : Value} {h : gm_H} : gm_cl' X d 29 [v0, v1, v2, v3] h = gm_ev X d 29 0 [v0, v1, v2, v3, .retAddr 0, .retAddr 0, .retAddr 0] [] h := by
  unfold gm_cl' gm_ent
  rw [show gm_ml 29 = 7 by decide +kernel]
  rfl
theorem na_30 : gm_na 30 = 1 := by decide +kernel
theorem rt_30 : gm_rt 30 = (some .int) := by decide +kernel
theorem mc_30 : gm_mc 30 = 3 := by decide +kernel
theorem cl_30 {X : List Int32} {d : Nat} {v0 : Value} {h : gm_H} : gm_cl' X d 30 [v0] h = gm_ev X d 30 0 [v0] [] h := by
  unfold gm_cl' gm_ent
  rw [show gm_ml 30 = 1 by decide +kernel]
  rfl
theorem na_31 : gm_na 31 = 3 := by decide +kernel
theorem rt_31 : gm_rt 31 = (some .boolean) := by decide +kernel
theorem mc_31 : gm_mc 31 = 3 := by decide +kernel
theorem cl_31 {X : List Int32} {d : Nat} {v0 v1 v2 : Value} {h : gm_H} : gm_cl' X d 31 [v0, v1, v2] h = gm_ev X d 31 0 [v0, v1, v2, .retAddr 0, .retAddr 0] [] h := by
  unfold gm_cl' gm_ent
  rw [show gm_ml 31 = 5 by decide +kernel]
  rfl
theorem na_32 : gm_na 32 = 3 := by decide +kernel
theorem rt_32 : gm_rt 32 = (some .boolean) := by decide +kernel
theorem mc_32 : gm_mc 32 = 3 := by decide +kernel
theorem cl_32 {X : List Int32} {d : Nat} {v0 v1 v2 : Value} {h : gm_H} : gm_cl' X d 32 [v0, v1, v2] h = gm_ev X d 32 0 [v0, v1, v2] [] h := by
  unfold gm_cl' gm_ent
  rw [show gm_ml 32 = 3 by decide +kernel]
  rfl
theorem na_33 : gm_na 33 = 3 := by decide +kernel
theorem rt_33 : gm_rt 33 = (some .boolean) := by decide +kernel
theorem mc_33 : gm_mc 33 = 3 := by decide +kernel
theorem cl_33 {X : List Int32} {d : Nat} {v0 v1 v2 : Value} {h : gm_H} : gm_cl' X d 33 [v0, v1, v2] h = gm_ev X d 33 0 [v0, v1, v2] [] h := by
  unfold gm_cl' gm_ent
  rw [show gm_ml 33 = 3 by decide +kernel]
  rfl
theorem na_34 : gm_na 34 = 1 := by decide +kernel
theorem rt_34 : gm_rt 34 = none := by decide +kernel
theorem mc_34 : gm_mc 34 = 4 := by decide +kernel
theorem na_35 : gm_na 35 = 3 := by decide +kernel
theorem rt_35 : gm_rt 35 = none := by decide +kernel
theorem mc_35 : gm_mc 35 = 4 := by decide +kernel
theorem cl_35 {X : List Int32} {d : Nat} {v0 v1 v2 : Value} {h : gm_H} : gm_cl' X d 35 [v0, v1, v2] h = gm_ev X d 35 0 [v0, v1, v2, .retAddr 0] [] h := by
  unfold gm_cl' gm_ent
  rw [show gm_ml 35 = 4 by decide +kernel]
  rfl
theorem na_36 : gm_na 36 = 2 := by decide +kernel
theorem rt_36 : gm_rt 36 = none := by decide +kernel
theorem mc_36 : gm_mc 36 = 4 := by decide +kernel
theorem cl_36 {X : List Int32} {d : Nat} {v0 v1 : Value} {h : gm_H} : gm_cl' X d 36 [v0, v1] h = gm_ev X d 36 0 [v0, v1] [] h := by
  unfold gm_cl' gm_ent
  rw [show gm_ml 36 = 2 by decide +kernel]
  rfl
theorem na_37 : gm_na 37 = 3 := by decide +kernel
theorem rt_37 : gm_rt 37 = (some .boolean) := by decide +kernel
theorem mc_37 : gm_mc 37 = 4 := by decide +kernel
theorem cl_37 {X : List Int32} {d : Nat} {v0 v1 v2 : Value} {h : gm_H} : gm_cl' X d 37 [v0, v1, v2] h = gm_ev X d 37 0 [v0, v1, v2] [] h := by
  unfold gm_cl' gm_ent
  rw [show gm_ml 37 = 3 by decide +kernel]
  rfl
theorem na_38 : gm_na 38 = 1 := by decide +kernel
theorem rt_38 : gm_rt 38 = none := by decide +kernel
theorem mc_38 : gm_mc 38 = 5 := by decide +kernel
theorem na_39 : gm_na 39 = 1 := by decide +kernel
theorem rt_39 : gm_rt 39 = (some .int) := by decide +kernel
theorem mc_39 : gm_mc 39 = 5 := by decide +kernel
theorem cl_39 {X : List Int32} {d : Nat} {v0 : Value} {h : gm_H} : gm_cl' X d 39 [v0] h = gm_ev X d 39 0 [v0] [] h := by
  unfold gm_cl' gm_ent
  rw [show gm_ml 39 = 1 by decide +kernel]
  rfl
theorem na_40 : gm_na 40 = 1 := by decide +kernel
theorem rt_40 : gm_rt 40 = none := by decide +kernel
theorem mc_40 : gm_mc 40 = 6 := by decide +kernel
theorem na_41 : gm_na 41 = 2 := by decide +kernel
theorem rt_41 : gm_rt 41 = none := by decide +kernel
theorem mc_41 : gm_mc 41 = 6 := by decide +kernel
theorem cl_41 {X : List Int32} {d : Nat} {v0 v1 : Value} {h : gm_H} : gm_cl' X d 41 [v0, v1] h = gm_ev X d 41 0 [v0, v1, .retAddr 0] [] h := by
  unfold gm_cl' gm_ent
  rw [show gm_ml 41 = 3 by decide +kernel]
  rfl
theorem na_42 : gm_na 42 = 1 := by decide +kernel
theorem rt_42 : gm_rt 42 = none := by decide +kernel
theorem mc_42 : gm_mc 42 = 6 := by decide +kernel
theorem cl_42 {X : List Int32} {d : Nat} {v0 : Value} {h : gm_H} : gm_cl' X d 42 [v0] h = gm_ev X d 42 0 [v0] [] h := by
  unfold gm_cl' gm_ent
  rw [show gm_ml 42 = 1 by decide +kernel]
  rfl
theorem na_43 : gm_na 43 = 1 := by decide +kernel
theorem rt_43 : gm_rt 43 = none := by decide +kernel
theorem mc_43 : gm_mc 43 = 6 := by decide +kernel
theorem cl_43 {X : List Int32} {d : Nat} {v0 : Value} {h : gm_H} : gm_cl' X d 43 [v0] h = gm_ev X d 43 0 [v0, .retAddr 0, .retAddr 0] [] h := by
  unfold gm_cl' gm_ent
  rw [show gm_ml 43 = 3 by decide +kernel]
  rfl
theorem na_44 : gm_na 44 = 1 := by decide +kernel
theorem rt_44 : gm_rt 44 = (some .int) := by decide +kernel
theorem mc_44 : gm_mc 44 = 6 := by decide +kernel
theorem cl_44 {X : List Int32} {d : Nat} {v0 : Value} {h : gm_H} : gm_cl' X d 44 [v0] h = gm_ev X d 44 0 [v0] [] h := by
  unfold gm_cl' gm_ent
  rw [show gm_ml 44 = 1 by decide +kernel]
  rfl
theorem na_45 : gm_na 45 = 1 := by decide +kernel
theorem rt_45 : gm_rt 45 = (some .int) := by decide +kernel
theorem mc_45 : gm_mc 45 = 6 := by decide +kernel
theorem cl_45 {X : List Int32} {d : Nat} {v0 : Value} {h : gm_H} : gm_cl' X d 45 [v0] h = gm_ev X d 45 0 [v0] [] h := by
  unfold gm_cl' gm_ent
  rw [show gm_ml 45 = 1 by decide +kernel]
  rfl
theorem na_46 : gm_na 46 = 1 := by decide +kernel
theorem rt_46 : gm_rt 46 = (some .int) := by decide +kernel
theorem mc_46 : gm_mc 46 = 6 := by decide +kernel
theorem cl_46 {X : List Int32} {d : Nat} {v0 : Value} {h : gm_H} : gm_cl' X d 46 [v0] h = gm_ev X d 46 0 [v0] [] h := by
  unfold gm_cl' gm_ent
  rw [show gm_ml 46 = 1 by decide +kernel]
  rfl
theorem na_47 : gm_na 47 = 1 := by decide +kernel
theorem rt_47 : gm_rt 47 = (some .int) := by decide +kernel
theorem mc_47 : gm_mc 47 = 6 := by decide +kernel
theorem cl_47 {X : List Int32} {d : Nat} {v0 : Value} {h : gm_H} : gm_cl' X d 47 [v0] h = gm_ev X d 47 0 [v0, .retAddr 0, .retAddr 0] [] h := by
  unfold gm_cl' gm_ent
  rw [show gm_ml 47 = 3 by decide +kernel]
  rfl
theorem na_48 : gm_na 48 = 2 := by decide +kernel
theorem rt_48 : gm_rt 48 = (some .int) := by decide +kernel
theorem mc_48 : gm_mc 48 = 6 := by decide +kernel
theorem cl_48 {X : List Int32} {d : Nat} {v0 v1 : Value} {h : gm_H} : gm_cl' X d 48 [v0, v1] h = gm_ev X d 48 0 [v0, v1, .retAddr 0] [] h := by
  unfold gm_cl' gm_ent
  rw [show gm_ml 48 = 3 by decide +kernel]
  rfl
theorem na_49 : gm_na 49 = 2 := by decide +kernel
theorem rt_49 : gm_rt 49 = (some .boolean) := by decide +kernel
theorem mc_49 : gm_mc 49 = 6 := by decide +kernel
theorem cl_49 {X : List Int32} {d : Nat} {v0 v1 : Value} {h : gm_H} : gm_cl' X d 49 [v0, v1] h = gm_ev X d 49 0 [v0, v1, .retAddr 0] [] h := by
  unfold gm_cl' gm_ent
  rw [show gm_ml 49 = 3 by decide +kernel]
  rfl
theorem na_50 : gm_na 50 = 1 := by decide +kernel
theorem rt_50 : gm_rt 50 = none := by decide +kernel
theorem mc_50 : gm_mc 50 = 7 := by decide +kernel
theorem na_51 : gm_na 51 = 3 := by decide +kernel
theorem rt_51 : gm_rt 51 = none := by decide +kernel
theorem mc_51 : gm_mc 51 = 7 := by decide +kernel
theorem cl_51 {X : List Int32} {d : Nat} {v0 v1 v2 : Value} {h : gm_H} : gm_cl' X d 51 [v0, v1, v2] h = gm_ev X d 51 0 [v0, v1, v2] [] h := by
  unfold gm_cl' gm_ent
  rw [show gm_ml 51 = 3 by decide +kernel]
  rfl
theorem na_52 : gm_na 52 = 3 := by decide +kernel
theorem rt_52 : gm_rt 52 = none := by decide +kernel
theorem mc_52 : gm_mc 52 = 7 := by decide +kernel
theorem cl_52 {X : List Int32} {d : Nat} {v0 v1 v2 : Value} {h : gm_H} : gm_cl' X d 52 [v0, v1, v2] h = gm_ev X d 52 0 [v0, v1, v2] [] h := by
  unfold gm_cl' gm_ent
  rw [show gm_ml 52 = 3 by decide +kernel]
  rfl
theorem na_53 : gm_na 53 = 3 := by decide +kernel
theorem rt_53 : gm_rt 53 = none := by decide +kernel
theorem mc_53 : gm_mc 53 = 7 := by decide +kernel
theorem cl_53 {X : List Int32} {d : Nat} {v0 v1 v2 : Value} {h : gm_H} : gm_cl' X d 53 [v0, v1, v2] h = gm_ev X d 53 0 [v0, v1, v2] [] h := by
  unfold gm_cl' gm_ent
  rw [show gm_ml 53 = 3 by decide +kernel]
  rfl
theorem na_54 : gm_na 54 = 5 := by decide +kernel
theorem rt_54 : gm_rt 54 = (some .int) := by decide +kernel
theorem mc_54 : gm_mc 54 = 7 := by decide +kernel
theorem cl_54 {X : List Int32} {d : Nat} {v0 v1 v2 v3 v4 : Value} {h : gm_H} : gm_cl' X d 54 [v0, v1, v2, v3, v4] h = gm_ev X d 54 0 [v0, v1, v2, v3, v4, .retAddr 0, .retAddr 0, .retAddr 0, .retAddr 0, .retAddr 0] [] h := by
  unfold gm_cl' gm_ent
  rw [show gm_ml 54 = 10 by decide +kernel]
  rfl
theorem na_55 : gm_na 55 = 4 := by decide +kernel
theorem rt_55 : gm_rt 55 = (some .int) := by decide +kernel
theorem mc_55 : gm_mc 55 = 7 := by decide +kernel
theorem cl_55 {X : List Int32} {d : Nat} {v0 v1 v2 v3 : Value} {h : gm_H} : gm_cl' X d 55 [v0, v1, v2, v3] h = gm_ev X d 55 0 [v0, v1, v2, v3] [] h := by
  unfold gm_cl' gm_ent
  rw [show gm_ml 55 = 4 by decide +kernel]
  rfl
theorem na_56 : gm_na 56 = 3 := by decide +kernel
theorem rt_56 : gm_rt 56 = (some .int) := by decide +kernel
theorem mc_56 : gm_mc 56 = 7 := by decide +kernel
theorem cl_56 {X : List Int32} {d : Nat} {v0 v1 v2 : Value} {h : gm_H} : gm_cl' X d 56 [v0, v1, v2] h = gm_ev X d 56 0 [v0, v1, v2] [] h := by
  unfold gm_cl' gm_ent
  rw [show gm_ml 56 = 3 by decide +kernel]
  rfl
theorem na_57 : gm_na 57 = 1 := by decide +kernel
theorem rt_57 : gm_rt 57 = none := by decide +kernel
theorem mc_57 : gm_mc 57 = 8 := by decide +kernel
theorem na_58 : gm_na 58 = 4 := by decide +kernel
theorem rt_58 : gm_rt 58 = (some .int) := by decide +kernel
theorem mc_58 : gm_mc 58 = 8 := by decide +kernel
theorem cl_58 {X : List Int32} {d : Nat} {v0 v1 v2 v3 : Value} {h : gm_H} : gm_cl' X d 58 [v0, v1, v2, v3] h = gm_ev X d 58 0 [v0, v1, v2, v3] [] h := by
  unfold gm_cl' gm_ent
  rw [show gm_ml 58 = 4 by decide +kernel]
  rfl
theorem na_59 : gm_na 59 = 3 := by decide +kernel
theorem rt_59 : gm_rt 59 = (some .int) := by decide +kernel
theorem mc_59 : gm_mc 59 = 8 := by decide +kernel
theorem cl_59 {X : List Int32} {d : Nat} {v0 v1 v2 : Value} {h : gm_H} : gm_cl' X d 59 [v0, v1, v2] h = gm_ev X d 59 0 [v0, v1, v2, .retAddr 0] [] h := by
  unfold gm_cl' gm_ent
  rw [show gm_ml 59 = 4 by decide +kernel]
  rfl
theorem na_60 : gm_na 60 = 3 := by decide +kernel
theorem rt_60 : gm_rt 60 = (some .int) := by decide +kernel
theorem mc_60 : gm_mc 60 = 8 := by decide +kernel
theorem cl_60 {X : List Int32} {d : Nat} {v0 v1 v2 : Value} {h : gm_H} : gm_cl' X d 60 [v0, v1, v2] h = gm_ev X d 60 0 [v0, v1, v2] [] h := by
  unfold gm_cl' gm_ent
  rw [show gm_ml 60 = 3 by decide +kernel]
  rfl
theorem na_61 : gm_na 61 = 3 := by decide +kernel
theorem rt_61 : gm_rt 61 = (some .int) := by decide +kernel
theorem mc_61 : gm_mc 61 = 8 := by decide +kernel
theorem cl_61 {X : List Int32} {d : Nat} {v0 v1 v2 : Value} {h : gm_H} : gm_cl' X d 61 [v0, v1, v2] h = gm_ev X d 61 0 [v0, v1, v2, .retAddr 0] [] h := by
  unfold gm_cl' gm_ent
  rw [show gm_ml 61 = 4 by decide +kernel]
  rfl
theorem na_62 : gm_na 62 = 3 := by decide +kernel
theorem rt_62 : gm_rt 62 = (some .int) := by decide +kernel
theorem mc_62 : gm_mc 62 = 8 := by decide +kernel
theorem cl_62 {X : List Int32} {d : Nat} {v0 v1 v2 : Value} {h : gm_H} : gm_cl' X d 62 [v0, v1, v2] h = gm_ev X d 62 0 [v0, v1, v2, .retAddr 0, .retAddr 0] [] h := by
  unfold gm_cl' gm_ent
  rw [show gm_ml 62 = 5 by decide +kernel]
  rfl
theorem na_63 : gm_na 63 = 4 := by decide +kernel
theorem rt_63 : gm_rt 63 = (some .int) := by decide +kernel
theorem mc_63 : gm_mc 63 = 8 := by decide +kernel
theorem cl_63 {X : List Int32} {d : Nat} {v0 v1 v2 v3 : Value} {h : gm_H} : gm_cl' X d 63 [v0, v1, v2, v3] h = gm_ev X d 63 0 [v0, v1, v2, v3, .retAddr 0] [] h := by
  unfold gm_cl' gm_ent
  rw [show gm_ml 63 = 5 by decide +kernel]
  rfl
theorem na_64 : gm_na 64 = 2 := by decide +kernel
theorem rt_64 : gm_rt 64 = (some .int) := by decide +kernel
theorem mc_64 : gm_mc 64 = 8 := by decide +kernel
theorem cl_64 {X : List Int32} {d : Nat} {v0 v1 : Value} {h : gm_H} : gm_cl' X d 64 [v0, v1] h = gm_ev X d 64 0 [v0, v1, .retAddr 0] [] h := by
  unfold gm_cl' gm_ent
  rw [show gm_ml 64 = 3 by decide +kernel]
  rfl
theorem na_65 : gm_na 65 = 2 := by decide +kernel
theorem rt_65 : gm_rt 65 = (some .int) := by decide +kernel
theorem mc_65 : gm_mc 65 = 8 := by decide +kernel
theorem cl_65 {X : List Int32} {d : Nat} {v0 v1 : Value} {h : gm_H} : gm_cl' X d 65 [v0, v1] h = gm_ev X d 65 0 [v0, v1, .retAddr 0] [] h := by
  unfold gm_cl' gm_ent
  rw [show gm_ml 65 = 3 by decide +kernel]
  rfl
theorem na_66 : gm_na 66 = 2 := by decide +kernel
theorem rt_66 : gm_rt 66 = (some .int) := by decide +kernel
theorem mc_66 : gm_mc 66 = 8 := by decide +kernel
theorem cl_66 {X : List Int32} {d : Nat} {v0 v1 : Value} {h : gm_H} : gm_cl' X d 66 [v0, v1] h = gm_ev X d 66 0 [v0, v1, .retAddr 0] [] h := by
  unfold gm_cl' gm_ent
  rw [show gm_ml 66 = 3 by decide +kernel]
  rfl
theorem na_67 : gm_na 67 = 2 := by decide +kernel
theorem rt_67 : gm_rt 67 = (some .int) := by decide +kernel
theorem mc_67 : gm_mc 67 = 8 := by decide +kernel
theorem cl_67 {X : List Int32} {d : Nat} {v0 v1 : Value} {h : gm_H} : gm_cl' X d 67 [v0, v1] h = gm_ev X d 67 0 [v0, v1] [] h := by
  unfold gm_cl' gm_ent
  rw [show gm_ml 67 = 2 by decide +kernel]
  rfl
theorem na_68 : gm_na 68 = 3 := by decide +kernel
theorem rt_68 : gm_rt 68 = (some .int) := by decide +kernel
theorem mc_68 : gm_mc 68 = 8 := by decide +kernel
theorem cl_68 {X : List Int32} {d : Nat} {v0 v1 v2 : Value} {h : gm_H} : gm_cl' X d 68 [v0, v1, v2] h = gm_ev X d 68 0 [v0, v1, v2, .retAddr 0] [] h := by
  unfold gm_cl' gm_ent
  rw [show gm_ml 68 = 4 by decide +kernel]
  rfl
theorem na_69 : gm_na 69 = 3 := by decide +kernel
theorem rt_69 : gm_rt 69 = (some .int) := by decide +kernel
theorem mc_69 : gm_mc 69 = 8 := by decide +kernel
theorem cl_69 {X : List Int32} {d : Nat} {v0 v1 v2 : Value} {h : gm_H} : gm_cl' X d 69 [v0, v1, v2] h = gm_ev X d 69 0 [v0, v1, v2, .retAddr 0, .retAddr 0] [] h := by
  unfold gm_cl' gm_ent
  rw [show gm_ml 69 = 5 by decide +kernel]
  rfl
theorem na_70 : gm_na 70 = 2 := by decide +kernel
theorem rt_70 : gm_rt 70 = (some .int) := by decide +kernel
theorem mc_70 : gm_mc 70 = 8 := by decide +kernel
theorem cl_70 {X : List Int32} {d : Nat} {v0 v1 : Value} {h : gm_H} : gm_cl' X d 70 [v0, v1] h = gm_ev X d 70 0 [v0, v1, .retAddr 0, .retAddr 0, .retAddr 0, .retAddr 0, .retAddr 0] [] h := by
  unfold gm_cl' gm_ent
  rw [show gm_ml 70 = 7 by decide +kernel]
  rfl
theorem na_71 : gm_na 71 = 2 := by decide +kernel
theorem rt_71 : gm_rt 71 = (some .int) := by decide +kernel
theorem mc_71 : gm_mc 71 = 8 := by decide +kernel
theorem cl_71 {X : List Int32} {d : Nat} {v0 v1 : Value} {h : gm_H} : gm_cl' X d 71 [v0, v1] h = gm_ev X d 71 0 [v0, v1, .retAddr 0] [] h := by
  unfold gm_cl' gm_ent
  rw [show gm_ml 71 = 3 by decide +kernel]
  rfl
theorem na_72 : gm_na 72 = 3 := by decide +kernel
theorem rt_72 : gm_rt 72 = (some .int) := by decide +kernel
theorem mc_72 : gm_mc 72 = 8 := by decide +kernel
theorem cl_72 {X : List Int32} {d : Nat} {v0 v1 v2 : Value} {h : gm_H} : gm_cl' X d 72 [v0, v1, v2] h = gm_ev X d 72 0 [v0, v1, v2, .retAddr 0] [] h := by
  unfold gm_cl' gm_ent
  rw [show gm_ml 72 = 4 by decide +kernel]
  rfl
theorem na_73 : gm_na 73 = 2 := by decide +kernel
theorem rt_73 : gm_rt 73 = (some .int) := by decide +kernel
theorem mc_73 : gm_mc 73 = 8 := by decide +kernel
theorem cl_73 {X : List Int32} {d : Nat} {v0 v1 : Value} {h : gm_H} : gm_cl' X d 73 [v0, v1] h = gm_ev X d 73 0 [v0, v1, .retAddr 0, .retAddr 0] [] h := by
  unfold gm_cl' gm_ent
  rw [show gm_ml 73 = 4 by decide +kernel]
  rfl
theorem na_74 : gm_na 74 = 2 := by decide +kernel
theorem rt_74 : gm_rt 74 = (some .int) := by decide +kernel
theorem mc_74 : gm_mc 74 = 8 := by decide +kernel
theorem cl_74 {X : List Int32} {d : Nat} {v0 v1 : Value} {h : gm_H} : gm_cl' X d 74 [v0, v1] h = gm_ev X d 74 0 [v0, v1] [] h := by
  unfold gm_cl' gm_ent
  rw [show gm_ml 74 = 2 by decide +kernel]
  rfl
theorem na_75 : gm_na 75 = 2 := by decide +kernel
theorem rt_75 : gm_rt 75 = (some .int) := by decide +kernel
theorem mc_75 : gm_mc 75 = 8 := by decide +kernel
theorem cl_75 {X : List Int32} {d : Nat} {v0 v1 : Value} {h : gm_H} : gm_cl' X d 75 [v0, v1] h = gm_ev X d 75 0 [v0, v1] [] h := by
  unfold gm_cl' gm_ent
  rw [show gm_ml 75 = 2 by decide +kernel]
  rfl
theorem na_76 : gm_na 76 = 3 := by decide +kernel
theorem rt_76 : gm_rt 76 = (some .int) := by decide +kernel
theorem mc_76 : gm_mc 76 = 8 := by decide +kernel
theorem cl_76 {X : List Int32} {d : Nat} {v0 v1 v2 : Value} {h : gm_H} : gm_cl' X d 76 [v0, v1, v2] h = gm_ev X d 76 0 [v0, v1, v2] [] h := by
  unfold gm_cl' gm_ent
  rw [show gm_ml 76 = 3 by decide +kernel]
  rfl
theorem na_77 : gm_na 77 = 1 := by decide +kernel
theorem rt_77 : gm_rt 77 = (some .int) := by decide +kernel
theorem mc_77 : gm_mc 77 = 8 := by decide +kernel
theorem cl_77 {X : List Int32} {d : Nat} {v0 : Value} {h : gm_H} : gm_cl' X d 77 [v0] h = gm_ev X d 77 0 [v0, .retAddr 0] [] h := by
  unfold gm_cl' gm_ent
  rw [show gm_ml 77 = 2 by decide +kernel]
  rfl
theorem na_78 : gm_na 78 = 4 := by decide +kernel
theorem rt_78 : gm_rt 78 = (some .int) := by decide +kernel
theorem mc_78 : gm_mc 78 = 8 := by decide +kernel
theorem cl_78 {X : List Int32} {d : Nat} {v0 v1 v2 v3 : Value} {h : gm_H} : gm_cl' X d 78 [v0, v1, v2, v3] h = gm_ev X d 78 0 [v0, v1, v2, v3, .retAddr 0] [] h := by
  unfold gm_cl' gm_ent
  rw [show gm_ml 78 = 5 by decide +kernel]
  rfl
theorem na_79 : gm_na 79 = 5 := by decide +kernel
theorem rt_79 : gm_rt 79 = (some .boolean) := by decide +kernel
theorem mc_79 : gm_mc 79 = 8 := by decide +kernel
theorem cl_79 {X : List Int32} {d : Nat} {v0 v1 v2 v3 v4 : Value} {h : gm_H} : gm_cl' X d 79 [v0, v1, v2, v3, v4] h = gm_ev X d 79 0 [v0, v1, v2, v3, v4, .retAddr 0] [] h := by
  unfold gm_cl' gm_ent
  rw [show gm_ml 79 = 6 by decide +kernel]
  rfl
theorem na_80 : gm_na 80 = 3 := by decide +kernel
theorem rt_80 : gm_rt 80 = (some .int) := by decide +kernel
theorem mc_80 : gm_mc 80 = 8 := by decide +kernel
theorem cl_80 {X : List Int32} {d : Nat} {v0 v1 v2 : Value} {h : gm_H} : gm_cl' X d 80 [v0, v1, v2] h = gm_ev X d 80 0 [v0, v1, v2, .retAddr 0, .retAddr 0, .retAddr 0, .retAddr 0] [] h := by
  unfold gm_cl' gm_ent
  rw [show gm_ml 80 = 7 by decide +kernel]
  rfl
theorem na_81 : gm_na 81 = 3 := by decide +kernel
theorem rt_81 : gm_rt 81 = (some .int) := by decide +kernel
theorem mc_81 : gm_mc 81 = 8 := by decide +kernel
theorem cl_81 {X : List Int32} {d : Nat} {v0 v1 v2 : Value} {h : gm_H} : gm_cl' X d 81 [v0, v1, v2] h = gm_ev X d 81 0 [v0, v1, v2] [] h := by
  unfold gm_cl' gm_ent
  rw [show gm_ml 81 = 3 by decide +kernel]
  rfl
theorem na_82 : gm_na 82 = 3 := by decide +kernel
theorem rt_82 : gm_rt 82 = (some .int) := by decide +kernel
theorem mc_82 : gm_mc 82 = 8 := by decide +kernel
theorem cl_82 {X : List Int32} {d : Nat} {v0 v1 v2 : Value} {h : gm_H} : gm_cl' X d 82 [v0, v1, v2] h = gm_ev X d 82 0 [v0, v1, v2] [] h := by
  unfold gm_cl' gm_ent
  rw [show gm_ml 82 = 3 by decide +kernel]
  rfl
theorem na_83 : gm_na 83 = 2 := by decide +kernel
theorem rt_83 : gm_rt 83 = (some .int) := by decide +kernel
theorem mc_83 : gm_mc 83 = 8 := by decide +kernel
theorem cl_83 {X : List Int32} {d : Nat} {v0 v1 : Value} {h : gm_H} : gm_cl' X d 83 [v0, v1] h = gm_ev X d 83 0 [v0, v1, .retAddr 0, .retAddr 0, .retAddr 0, .retAddr 0] [] h := by
  unfold gm_cl' gm_ent
  rw [show gm_ml 83 = 6 by decide +kernel]
  rfl
theorem na_84 : gm_na 84 = 4 := by decide +kernel
theorem rt_84 : gm_rt 84 = (some .int) := by decide +kernel
theorem mc_84 : gm_mc 84 = 8 := by decide +kernel
theorem cl_84 {X : List Int32} {d : Nat} {v0 v1 v2 v3 : Value} {h : gm_H} : gm_cl' X d 84 [v0, v1, v2, v3] h = gm_ev X d 84 0 [v0, v1, v2, v3] [] h := by
  unfold gm_cl' gm_ent
  rw [show gm_ml 84 = 4 by decide +kernel]
  rfl
theorem na_85 : gm_na 85 = 4 := by decide +kernel
theorem rt_85 : gm_rt 85 = (some .int) := by decide +kernel
theorem mc_85 : gm_mc 85 = 8 := by decide +kernel
theorem cl_85 {X : List Int32} {d : Nat} {v0 v1 v2 v3 : Value} {h : gm_H} : gm_cl' X d 85 [v0, v1, v2, v3] h = gm_ev X d 85 0 [v0, v1, v2, v3, .retAddr 0, .retAddr 0, .retAddr 0, .retAddr 0, .retAddr 0] [] h := by
  unfold gm_cl' gm_ent
  rw [show gm_ml 85 = 9 by decide +kernel]
  rfl
theorem na_86 : gm_na 86 = 4 := by decide +kernel
theorem rt_86 : gm_rt 86 = (some .int) := by decide +kernel
theorem mc_86 : gm_mc 86 = 8 := by decide +kernel
theorem cl_86 {X : List Int32} {d : Nat} {v0 v1 v2 v3 : Value} {h : gm_H} : gm_cl' X d 86 [v0, v1, v2, v3] h = gm_ev X d 86 0 [v0, v1, v2, v3, .retAddr 0, .retAddr 0, .retAddr 0] [] h := by
  unfold gm_cl' gm_ent
  rw [show gm_ml 86 = 7 by decide +kernel]
  rfl
theorem na_87 : gm_na 87 = 1 := by decide +kernel
theorem rt_87 : gm_rt 87 = (some .int) := by decide +kernel
theorem mc_87 : gm_mc 87 = 8 := by decide +kernel
theorem cl_87 {X : List Int32} {d : Nat} {v0 : Value} {h : gm_H} : gm_cl' X d 87 [v0] h = gm_ev X d 87 0 [v0, .retAddr 0] [] h := by
  unfold gm_cl' gm_ent
  rw [show gm_ml 87 = 2 by decide +kernel]
  rfl
theorem na_88 : gm_na 88 = 4 := by decide +kernel
theorem rt_88 : gm_rt 88 = (some .int) := by decide +kernel
theorem mc_88 : gm_mc 88 = 8 := by decide +kernel
theorem cl_88 {X : List Int32} {d : Nat} {v0 v1 v2 v3 : Value} {h : gm_H} : gm_cl' X d 88 [v0, v1, v2, v3] h = gm_ev X d 88 0 [v0, v1, v2, v3] [] h := by
  unfold gm_cl' gm_ent
  rw [show gm_ml 88 = 4 by decide +kernel]
  rfl
theorem na_89 : gm_na 89 = 2 := by decide +kernel
theorem rt_89 : gm_rt 89 = (some .int) := by decide +kernel
theorem mc_89 : gm_mc 89 = 8 := by decide +kernel
theorem cl_89 {X : List Int32} {d : Nat} {v0 v1 : Value} {h : gm_H} : gm_cl' X d 89 [v0, v1] h = gm_ev X d 89 0 [v0, v1] [] h := by
  unfold gm_cl' gm_ent
  rw [show gm_ml 89 = 2 by decide +kernel]
  rfl
theorem na_90 : gm_na 90 = 1 := by decide +kernel
theorem rt_90 : gm_rt 90 = (some .int) := by decide +kernel
theorem mc_90 : gm_mc 90 = 8 := by decide +kernel
theorem cl_90 {X : List Int32} {d : Nat} {v0 : Value} {h : gm_H} : gm_cl' X d 90 [v0] h = gm_ev X d 90 0 [v0, .retAddr 0, .retAddr 0, .retAddr 0] [] h := by
  unfold gm_cl' gm_ent
  rw [show gm_ml 90 = 4 by decide +kernel]
  rfl
theorem na_91 : gm_na 91 = 3 := by decide +kernel
theorem rt_91 : gm_rt 91 = (some .int) := by decide +kernel
theorem mc_91 : gm_mc 91 = 8 := by decide +kernel
theorem cl_91 {X : List Int32} {d : Nat} {v0 v1 v2 : Value} {h : gm_H} : gm_cl' X d 91 [v0, v1, v2] h = gm_ev X d 91 0 [v0, v1, v2] [] h := by
  unfold gm_cl' gm_ent
  rw [show gm_ml 91 = 3 by decide +kernel]
  rfl
theorem na_92 : gm_na 92 = 2 := by decide +kernel
theorem rt_92 : gm_rt 92 = (some .int) := by decide +kernel
theorem mc_92 : gm_mc 92 = 8 := by decide +kernel
theorem cl_92 {X : List Int32} {d : Nat} {v0 v1 : Value} {h : gm_H} : gm_cl' X d 92 [v0, v1] h = gm_ev X d 92 0 [v0, v1] [] h := by
  unfold gm_cl' gm_ent
  rw [show gm_ml 92 = 2 by decide +kernel]
  rfl
theorem na_93 : gm_na 93 = 4 := by decide +kernel
theorem rt_93 : gm_rt 93 = (some .int) := by decide +kernel
theorem mc_93 : gm_mc 93 = 8 := by decide +kernel
theorem cl_93 {X : List Int32} {d : Nat} {v0 v1 v2 v3 : Value} {h : gm_H} : gm_cl' X d 93 [v0, v1, v2, v3] h = gm_ev X d 93 0 [v0, v1, v2, v3] [] h := by
  unfold gm_cl' gm_ent
  rw [show gm_ml 93 = 4 by decide +kernel]
  rfl
theorem na_94 : gm_na 94 = 4 := by decide +kernel
theorem rt_94 : gm_rt 94 = (some .int) := by decide +kernel
theorem mc_94 : gm_mc 94 = 8 := by decide +kernel
theorem cl_94 {X : List Int32} {d : Nat} {v0 v1 v2 v3 : Value} {h : gm_H} : gm_cl' X d 94 [v0, v1, v2, v3] h = gm_ev X d 94 0 [v0, v1, v2, v3, .retAddr 0] [] h := by
  unfold gm_cl' gm_ent
  rw [show gm_ml 94 = 5 by decide +kernel]
  rfl
theorem na_95 : gm_na 95 = 2 := by decide +kernel
theorem rt_95 : gm_rt 95 = (some .int) := by decide +kernel
theorem mc_95 : gm_mc 95 = 8 := by decide +kernel
theorem cl_95 {X : List Int32} {d : Nat} {v0 v1 : Value} {h : gm_H} : gm_cl' X d 95 [v0, v1] h = gm_ev X d 95 0 [v0, v1, .retAddr 0, .retAddr 0, .retAddr 0, .retAddr 0] [] h := by
  unfold gm_cl' gm_ent
  rw [show gm_ml 95 = 6 by decide +kernel]
  rfl
theorem na_96 : gm_na 96 = 2 := by decide +kernel
theorem rt_96 : gm_rt 96 = (some .int) := by decide +kernel
theorem mc_96 : gm_mc 96 = 8 := by decide +kernel
theorem cl_96 {X : List Int32} {d : Nat} {v0 v1 : Value} {h : gm_H} : gm_cl' X d 96 [v0, v1] h = gm_ev X d 96 0 [v0, v1, .retAddr 0, .retAddr 0, .retAddr 0] [] h := by
  unfold gm_cl' gm_ent
  rw [show gm_ml 96 = 5 by decide +kernel]
  rfl
theorem na_97 : gm_na 97 = 6 := by decide +kernel
theorem rt_97 : gm_rt 97 = (some .int) := by decide +kernel
theorem mc_97 : gm_mc 97 = 8 := by decide +kernel
theorem cl_97 {X : List Int32} {d : Nat} {v0 v1 v2 v3 v4 v5 : Value} {h : gm_H} : gm_cl' X d 97 [v0, v1, v2, v3, v4, v5] h = gm_ev X d 97 0 [v0, v1, v2, v3, v4, v5, .retAddr 0, .retAddr 0] [] h := by
  unfold gm_cl' gm_ent
  rw [show gm_ml 97 = 8 by decide +kernel]
  rfl
theorem na_98 : gm_na 98 = 4 := by decide +kernel
theorem rt_98 : gm_rt 98 = (some .int) := by decide +kernel
theorem mc_98 : gm_mc 98 = 8 := by decide +kernel
theorem cl_98 {X : List Int32} {d : Nat} {v0 v1 v2 v3 : Value} {h : gm_H} : gm_cl' X d 98 [v0, v1, v2, v3] h = gm_ev X d 98 0 [v0, v1, v2, v3, .retAddr 0, .retAddr 0] [] h := by
  unfold gm_cl' gm_ent
  rw [show gm_ml 98 = 6 by decide +kernel]
  rfl
theorem na_99 : gm_na 99 = 3 := by decide +kernel
theorem rt_99 : gm_rt 99 = (some .int) := by decide +kernel
theorem mc_99 : gm_mc 99 = 8 := by decide +kernel
theorem cl_99 {X : List Int32} {d : Nat} {v0 v1 v2 : Value} {h : gm_H} : gm_cl' X d 99 [v0, v1, v2] h = gm_ev X d 99 0 [v0, v1, v2, .retAddr 0] [] h := by
  unfold gm_cl' gm_ent
  rw [show gm_ml 99 = 4 by decide +kernel]
  rfl
theorem na_100 : gm_na 100 = 3 := by decide +kernel
theorem rt_100 : gm_rt 100 = (some .int) := by decide +kernel
theorem mc_100 : gm_mc 100 = 8 := by decide +kernel
theorem cl_100 {X : List Int32} {d : Nat} {v0 v1 v2 : Value} {h : gm_H} : gm_cl' X d 100 [v0, v1, v2] h = gm_ev X d 100 0 [v0, v1, v2, .retAddr 0, .retAddr 0] [] h := by
  unfold gm_cl' gm_ent
  rw [show gm_ml 100 = 5 by decide +kernel]
  rfl
theorem na_101 : gm_na 101 = 3 := by decide +kernel
theorem rt_101 : gm_rt 101 = (some .int) := by decide +kernel
theorem mc_101 : gm_mc 101 = 8 := by decide +kernel
theorem cl_101 {X : List Int32} {d : Nat} {v0 v1 v2 : Value} {h : gm_H} : gm_cl' X d 101 [v0, v1, v2] h = gm_ev X d 101 0 [v0, v1, v2, .retAddr 0] [] h := by
  unfold gm_cl' gm_ent
  rw [show gm_ml 101 = 4 by decide +kernel]
  rfl
theorem na_102 : gm_na 102 = 2 := by decide +kernel
theorem rt_102 : gm_rt 102 = (some .int) := by decide +kernel
theorem mc_102 : gm_mc 102 = 8 := by decide +kernel
theorem cl_102 {X : List Int32} {d : Nat} {v0 v1 : Value} {h : gm_H} : gm_cl' X d 102 [v0, v1] h = gm_ev X d 102 0 [v0, v1] [] h := by
  unfold gm_cl' gm_ent
  rw [show gm_ml 102 = 2 by decide +kernel]
  rfl
theorem na_103 : gm_na 103 = 2 := by decide +kernel
theorem rt_103 : gm_rt 103 = (some .int) := by decide +kernel
theorem mc_103 : gm_mc 103 = 8 := by decide +kernel
theorem cl_103 {X : List Int32} {d : Nat} {v0 v1 : Value} {h : gm_H} : gm_cl' X d 103 [v0, v1] h = gm_ev X d 103 0 [v0, v1, .retAddr 0, .retAddr 0, .retAddr 0] [] h := by
  unfold gm_cl' gm_ent
  rw [show gm_ml 103 = 5 by decide +kernel]
  rfl
theorem na_104 : gm_na 104 = 1 := by decide +kernel
theorem rt_104 : gm_rt 104 = (some .int) := by decide +kernel
theorem mc_104 : gm_mc 104 = 8 := by decide +kernel
theorem cl_104 {X : List Int32} {d : Nat} {v0 : Value} {h : gm_H} : gm_cl' X d 104 [v0] h = gm_ev X d 104 0 [v0] [] h := by
  unfold gm_cl' gm_ent
  rw [show gm_ml 104 = 1 by decide +kernel]
  rfl
theorem na_105 : gm_na 105 = 1 := by decide +kernel
theorem rt_105 : gm_rt 105 = (some .int) := by decide +kernel
theorem mc_105 : gm_mc 105 = 8 := by decide +kernel
theorem cl_105 {X : List Int32} {d : Nat} {v0 : Value} {h : gm_H} : gm_cl' X d 105 [v0] h = gm_ev X d 105 0 [v0] [] h := by
  unfold gm_cl' gm_ent
  rw [show gm_ml 105 = 1 by decide +kernel]
  rfl
theorem na_106 : gm_na 106 = 2 := by decide +kernel
theorem rt_106 : gm_rt 106 = (some .int) := by decide +kernel
theorem mc_106 : gm_mc 106 = 8 := by decide +kernel
theorem cl_106 {X : List Int32} {d : Nat} {v0 v1 : Value} {h : gm_H} : gm_cl' X d 106 [v0, v1] h = gm_ev X d 106 0 [v0, v1] [] h := by
  unfold gm_cl' gm_ent
  rw [show gm_ml 106 = 2 by decide +kernel]
  rfl
theorem na_107 : gm_na 107 = 3 := by decide +kernel
theorem rt_107 : gm_rt 107 = (some .boolean) := by decide +kernel
theorem mc_107 : gm_mc 107 = 8 := by decide +kernel
theorem cl_107 {X : List Int32} {d : Nat} {v0 v1 v2 : Value} {h : gm_H} : gm_cl' X d 107 [v0, v1, v2] h = gm_ev X d 107 0 [v0, v1, v2] [] h := by
  unfold gm_cl' gm_ent
  rw [show gm_ml 107 = 3 by decide +kernel]
  rfl
theorem na_108 : gm_na 108 = 2 := by decide +kernel
theorem rt_108 : gm_rt 108 = (some .int) := by decide +kernel
theorem mc_108 : gm_mc 108 = 8 := by decide +kernel
theorem cl_108 {X : List Int32} {d : Nat} {v0 v1 : Value} {h : gm_H} : gm_cl' X d 108 [v0, v1] h = gm_ev X d 108 0 [v0, v1] [] h := by
  unfold gm_cl' gm_ent
  rw [show gm_ml 108 = 2 by decide +kernel]
  rfl
theorem na_109 : gm_na 109 = 1 := by decide +kernel
theorem rt_109 : gm_rt 109 = (some .boolean) := by decide +kernel
theorem mc_109 : gm_mc 109 = 8 := by decide +kernel
theorem cl_109 {X : List Int32} {d : Nat} {v0 : Value} {h : gm_H} : gm_cl' X d 109 [v0] h = gm_ev X d 109 0 [v0] [] h := by
  unfold gm_cl' gm_ent
  rw [show gm_ml 109 = 1 by decide +kernel]
  rfl
theorem na_110 : gm_na 110 = 1 := by decide +kernel
theorem rt_110 : gm_rt 110 = (some .boolean) := by decide +kernel
theorem mc_110 : gm_mc 110 = 8 := by decide +kernel
theorem cl_110 {X : List Int32} {d : Nat} {v0 : Value} {h : gm_H} : gm_cl' X d 110 [v0] h = gm_ev X d 110 0 [v0] [] h := by
  unfold gm_cl' gm_ent
  rw [show gm_ml 110 = 1 by decide +kernel]
  rfl
theorem na_111 : gm_na 111 = 1 := by decide +kernel
theorem rt_111 : gm_rt 111 = (some .boolean) := by decide +kernel
theorem mc_111 : gm_mc 111 = 8 := by decide +kernel
theorem cl_111 {X : List Int32} {d : Nat} {v0 : Value} {h : gm_H} : gm_cl' X d 111 [v0] h = gm_ev X d 111 0 [v0] [] h := by
  unfold gm_cl' gm_ent
  rw [show gm_ml 111 = 1 by decide +kernel]
  rfl
theorem na_112 : gm_na 112 = 2 := by decide +kernel
theorem rt_112 : gm_rt 112 = (some .boolean) := by decide +kernel
theorem mc_112 : gm_mc 112 = 8 := by decide +kernel
theorem cl_112 {X : List Int32} {d : Nat} {v0 v1 : Value} {h : gm_H} : gm_cl' X d 112 [v0, v1] h = gm_ev X d 112 0 [v0, v1] [] h := by
  unfold gm_cl' gm_ent
  rw [show gm_ml 112 = 2 by decide +kernel]
  rfl
theorem na_113 : gm_na 113 = 2 := by decide +kernel
theorem rt_113 : gm_rt 113 = (some .boolean) := by decide +kernel
theorem mc_113 : gm_mc 113 = 8 := by decide +kernel
theorem cl_113 {X : List Int32} {d : Nat} {v0 v1 : Value} {h : gm_H} : gm_cl' X d 113 [v0, v1] h = gm_ev X d 113 0 [v0, v1] [] h := by
  unfold gm_cl' gm_ent
  rw [show gm_ml 113 = 2 by decide +kernel]
  rfl
theorem na_114 : gm_na 114 = 1 := by decide +kernel
theorem rt_114 : gm_rt 114 = none := by decide +kernel
theorem mc_114 : gm_mc 114 = 9 := by decide +kernel
theorem na_115 : gm_na 115 = 3 := by decide +kernel
theorem rt_115 : gm_rt 115 = (some .boolean) := by decide +kernel
theorem mc_115 : gm_mc 115 = 9 := by decide +kernel
theorem cl_115 {X : List Int32} {d : Nat} {v0 v1 v2 : Value} {h : gm_H} : gm_cl' X d 115 [v0, v1, v2] h = gm_ev X d 115 0 [v0, v1, v2] [] h := by
  unfold gm_cl' gm_ent
  rw [show gm_ml 115 = 3 by decide +kernel]
  rfl
theorem na_116 : gm_na 116 = 3 := by decide +kernel
theorem rt_116 : gm_rt 116 = (some .int) := by decide +kernel
theorem mc_116 : gm_mc 116 = 9 := by decide +kernel
theorem cl_116 {X : List Int32} {d : Nat} {v0 v1 v2 : Value} {h : gm_H} : gm_cl' X d 116 [v0, v1, v2] h = gm_ev X d 116 0 [v0, v1, v2] [] h := by
  unfold gm_cl' gm_ent
  rw [show gm_ml 116 = 3 by decide +kernel]
  rfl
theorem na_117 : gm_na 117 = 3 := by decide +kernel
theorem rt_117 : gm_rt 117 = (some .int) := by decide +kernel
theorem mc_117 : gm_mc 117 = 9 := by decide +kernel
theorem cl_117 {X : List Int32} {d : Nat} {v0 v1 v2 : Value} {h : gm_H} : gm_cl' X d 117 [v0, v1, v2] h = gm_ev X d 117 0 [v0, v1, v2, .retAddr 0] [] h := by
  unfold gm_cl' gm_ent
  rw [show gm_ml 117 = 4 by decide +kernel]
  rfl
theorem na_118 : gm_na 118 = 3 := by decide +kernel
theorem rt_118 : gm_rt 118 = none := by decide +kernel
theorem mc_118 : gm_mc 118 = 9 := by decide +kernel
theorem cl_118 {X : List Int32} {d : Nat} {v0 v1 v2 : Value} {h : gm_H} : gm_cl' X d 118 [v0, v1, v2] h = gm_ev X d 118 0 [v0, v1, v2, .retAddr 0] [] h := by
  unfold gm_cl' gm_ent
  rw [show gm_ml 118 = 4 by decide +kernel]
  rfl
theorem na_119 : gm_na 119 = 2 := by decide +kernel
theorem rt_119 : gm_rt 119 = (some .int) := by decide +kernel
theorem mc_119 : gm_mc 119 = 9 := by decide +kernel
theorem cl_119 {X : List Int32} {d : Nat} {v0 v1 : Value} {h : gm_H} : gm_cl' X d 119 [v0, v1] h = gm_ev X d 119 0 [v0, v1] [] h := by
  unfold gm_cl' gm_ent
  rw [show gm_ml 119 = 2 by decide +kernel]
  rfl
theorem na_120 : gm_na 120 = 2 := by decide +kernel
theorem rt_120 : gm_rt 120 = (some .boolean) := by decide +kernel
theorem mc_120 : gm_mc 120 = 9 := by decide +kernel
theorem cl_120 {X : List Int32} {d : Nat} {v0 v1 : Value} {h : gm_H} : gm_cl' X d 120 [v0, v1] h = gm_ev X d 120 0 [v0, v1] [] h := by
  unfold gm_cl' gm_ent
  rw [show gm_ml 120 = 2 by decide +kernel]
  rfl
theorem na_121 : gm_na 121 = 2 := by decide +kernel
theorem rt_121 : gm_rt 121 = (some .boolean) := by decide +kernel
theorem mc_121 : gm_mc 121 = 9 := by decide +kernel
theorem cl_121 {X : List Int32} {d : Nat} {v0 v1 : Value} {h : gm_H} : gm_cl' X d 121 [v0, v1] h = gm_ev X d 121 0 [v0, v1] [] h := by
  unfold gm_cl' gm_ent
  rw [show gm_ml 121 = 2 by decide +kernel]
  rfl
theorem na_122 : gm_na 122 = 3 := by decide +kernel
theorem rt_122 : gm_rt 122 = (some .int) := by decide +kernel
theorem mc_122 : gm_mc 122 = 9 := by decide +kernel
theorem cl_122 {X : List Int32} {d : Nat} {v0 v1 v2 : Value} {h : gm_H} : gm_cl' X d 122 [v0, v1, v2] h = gm_ev X d 122 0 [v0, v1, v2] [] h := by
  unfold gm_cl' gm_ent
  rw [show gm_ml 122 = 3 by decide +kernel]
  rfl
theorem na_123 : gm_na 123 = 3 := by decide +kernel
theorem rt_123 : gm_rt 123 = (some .int) := by decide +kernel
theorem mc_123 : gm_mc 123 = 9 := by decide +kernel
theorem cl_123 {X : List Int32} {d : Nat} {v0 v1 v2 : Value} {h : gm_H} : gm_cl' X d 123 [v0, v1, v2] h = gm_ev X d 123 0 [v0, v1, v2] [] h := by
  unfold gm_cl' gm_ent
  rw [show gm_ml 123 = 3 by decide +kernel]
  rfl
theorem na_124 : gm_na 124 = 4 := by decide +kernel
theorem rt_124 : gm_rt 124 = (some .int) := by decide +kernel
theorem mc_124 : gm_mc 124 = 9 := by decide +kernel
theorem cl_124 {X : List Int32} {d : Nat} {v0 v1 v2 v3 : Value} {h : gm_H} : gm_cl' X d 124 [v0, v1, v2, v3] h = gm_ev X d 124 0 [v0, v1, v2, v3, .retAddr 0, .retAddr 0] [] h := by
  unfold gm_cl' gm_ent
  rw [show gm_ml 124 = 6 by decide +kernel]
  rfl
theorem na_125 : gm_na 125 = 1 := by decide +kernel
theorem rt_125 : gm_rt 125 = (some .boolean) := by decide +kernel
theorem mc_125 : gm_mc 125 = 9 := by decide +kernel
theorem cl_125 {X : List Int32} {d : Nat} {v0 : Value} {h : gm_H} : gm_cl' X d 125 [v0] h = gm_ev X d 125 0 [v0] [] h := by
  unfold gm_cl' gm_ent
  rw [show gm_ml 125 = 1 by decide +kernel]
  rfl
theorem na_126 : gm_na 126 = 4 := by decide +kernel
theorem rt_126 : gm_rt 126 = (some .int) := by decide +kernel
theorem mc_126 : gm_mc 126 = 9 := by decide +kernel
theorem cl_126 {X : List Int32} {d : Nat} {v0 v1 v2 v3 : Value} {h : gm_H} : gm_cl' X d 126 [v0, v1, v2, v3] h = gm_ev X d 126 0 [v0, v1, v2, v3] [] h := by
  unfold gm_cl' gm_ent
  rw [show gm_ml 126 = 4 by decide +kernel]
  rfl
theorem na_127 : gm_na 127 = 1 := by decide +kernel
theorem rt_127 : gm_rt 127 = (some .int) := by decide +kernel
theorem mc_127 : gm_mc 127 = 9 := by decide +kernel
theorem cl_127 {X : List Int32} {d : Nat} {v0 : Value} {h : gm_H} : gm_cl' X d 127 [v0] h = gm_ev X d 127 0 [v0] [] h := by
  unfold gm_cl' gm_ent
  rw [show gm_ml 127 = 1 by decide +kernel]
  rfl
theorem na_128 : gm_na 128 = 2 := by decide +kernel
theorem rt_128 : gm_rt 128 = (some .boolean) := by decide +kernel
theorem mc_128 : gm_mc 128 = 9 := by decide +kernel
theorem cl_128 {X : List Int32} {d : Nat} {v0 v1 : Value} {h : gm_H} : gm_cl' X d 128 [v0, v1] h = gm_ev X d 128 0 [v0, v1, .retAddr 0] [] h := by
  unfold gm_cl' gm_ent
  rw [show gm_ml 128 = 3 by decide +kernel]
  rfl
theorem na_129 : gm_na 129 = 3 := by decide +kernel
theorem rt_129 : gm_rt 129 = (some .int) := by decide +kernel
theorem mc_129 : gm_mc 129 = 9 := by decide +kernel
theorem cl_129 {X : List Int32} {d : Nat} {v0 v1 v2 : Value} {h : gm_H} : gm_cl' X d 129 [v0, v1, v2] h = gm_ev X d 129 0 [v0, v1, v2, .retAddr 0] [] h := by
  unfold gm_cl' gm_ent
  rw [show gm_ml 129 = 4 by decide +kernel]
  rfl
theorem na_130 : gm_na 130 = 3 := by decide +kernel
theorem rt_130 : gm_rt 130 = (some .int) := by decide +kernel
theorem mc_130 : gm_mc 130 = 9 := by decide +kernel
theorem cl_130 {X : List Int32} {d : Nat} {v0 v1 v2 : Value} {h : gm_H} : gm_cl' X d 130 [v0, v1, v2] h = gm_ev X d 130 0 [v0, v1, v2, .retAddr 0] [] h := by
  unfold gm_cl' gm_ent
  rw [show gm_ml 130 = 4 by decide +kernel]
  rfl
theorem na_131 : gm_na 131 = 2 := by decide +kernel
theorem rt_131 : gm_rt 131 = (some .int) := by decide +kernel
theorem mc_131 : gm_mc 131 = 9 := by decide +kernel
theorem cl_131 {X : List Int32} {d : Nat} {v0 v1 : Value} {h : gm_H} : gm_cl' X d 131 [v0, v1] h = gm_ev X d 131 0 [v0, v1, .retAddr 0, .retAddr 0, .retAddr 0] [] h := by
  unfold gm_cl' gm_ent
  rw [show gm_ml 131 = 5 by decide +kernel]
  rfl
theorem na_132 : gm_na 132 = 3 := by decide +kernel
theorem rt_132 : gm_rt 132 = (some .int) := by decide +kernel
theorem mc_132 : gm_mc 132 = 9 := by decide +kernel
theorem cl_132 {X : List Int32} {d : Nat} {v0 v1 v2 : Value} {h : gm_H} : gm_cl' X d 132 [v0, v1, v2] h = gm_ev X d 132 0 [v0, v1, v2] [] h := by
  unfold gm_cl' gm_ent
  rw [show gm_ml 132 = 3 by decide +kernel]
  rfl
theorem na_133 : gm_na 133 = 2 := by decide +kernel
theorem rt_133 : gm_rt 133 = (some .int) := by decide +kernel
theorem mc_133 : gm_mc 133 = 9 := by decide +kernel
theorem cl_133 {X : List Int32} {d : Nat} {v0 v1 : Value} {h : gm_H} : gm_cl' X d 133 [v0, v1] h = gm_ev X d 133 0 [v0, v1] [] h := by
  unfold gm_cl' gm_ent
  rw [show gm_ml 133 = 2 by decide +kernel]
  rfl
theorem na_134 : gm_na 134 = 3 := by decide +kernel
theorem rt_134 : gm_rt 134 = (some .int) := by decide +kernel
theorem mc_134 : gm_mc 134 = 9 := by decide +kernel
theorem cl_134 {X : List Int32} {d : Nat} {v0 v1 v2 : Value} {h : gm_H} : gm_cl' X d 134 [v0, v1, v2] h = gm_ev X d 134 0 [v0, v1, v2] [] h := by
  unfold gm_cl' gm_ent
  rw [show gm_ml 134 = 3 by decide +kernel]
  rfl
theorem na_135 : gm_na 135 = 3 := by decide +kernel
theorem rt_135 : gm_rt 135 = (some .int) := by decide +kernel
theorem mc_135 : gm_mc 135 = 9 := by decide +kernel
theorem cl_135 {X : List Int32} {d : Nat} {v0 v1 v2 : Value} {h : gm_H} : gm_cl' X d 135 [v0, v1, v2] h = gm_ev X d 135 0 [v0, v1, v2] [] h := by
  unfold gm_cl' gm_ent
  rw [show gm_ml 135 = 3 by decide +kernel]
  rfl
theorem na_136 : gm_na 136 = 3 := by decide +kernel
theorem rt_136 : gm_rt 136 = (some .int) := by decide +kernel
theorem mc_136 : gm_mc 136 = 9 := by decide +kernel
theorem cl_136 {X : List Int32} {d : Nat} {v0 v1 v2 : Value} {h : gm_H} : gm_cl' X d 136 [v0, v1, v2] h = gm_ev X d 136 0 [v0, v1, v2] [] h := by
  unfold gm_cl' gm_ent
  rw [show gm_ml 136 = 3 by decide +kernel]
  rfl
theorem na_137 : gm_na 137 = 3 := by decide +kernel
theorem rt_137 : gm_rt 137 = (some .int) := by decide +kernel
theorem mc_137 : gm_mc 137 = 9 := by decide +kernel
theorem cl_137 {X : List Int32} {d : Nat} {v0 v1 v2 : Value} {h : gm_H} : gm_cl' X d 137 [v0, v1, v2] h = gm_ev X d 137 0 [v0, v1, v2] [] h := by
  unfold gm_cl' gm_ent
  rw [show gm_ml 137 = 3 by decide +kernel]
  rfl
theorem na_138 : gm_na 138 = 4 := by decide +kernel
theorem rt_138 : gm_rt 138 = (some .int) := by decide +kernel
theorem mc_138 : gm_mc 138 = 9 := by decide +kernel
theorem cl_138 {X : List Int32} {d : Nat} {v0 v1 v2 v3 : Value} {h : gm_H} : gm_cl' X d 138 [v0, v1, v2, v3] h = gm_ev X d 138 0 [v0, v1, v2, v3, .retAddr 0] [] h := by
  unfold gm_cl' gm_ent
  rw [show gm_ml 138 = 5 by decide +kernel]
  rfl
theorem na_139 : gm_na 139 = 2 := by decide +kernel
theorem rt_139 : gm_rt 139 = (some .int) := by decide +kernel
theorem mc_139 : gm_mc 139 = 9 := by decide +kernel
theorem cl_139 {X : List Int32} {d : Nat} {v0 v1 : Value} {h : gm_H} : gm_cl' X d 139 [v0, v1] h = gm_ev X d 139 0 [v0, v1, .retAddr 0] [] h := by
  unfold gm_cl' gm_ent
  rw [show gm_ml 139 = 3 by decide +kernel]
  rfl
theorem na_140 : gm_na 140 = 3 := by decide +kernel
theorem rt_140 : gm_rt 140 = (some .int) := by decide +kernel
theorem mc_140 : gm_mc 140 = 9 := by decide +kernel
theorem cl_140 {X : List Int32} {d : Nat} {v0 v1 v2 : Value} {h : gm_H} : gm_cl' X d 140 [v0, v1, v2] h = gm_ev X d 140 0 [v0, v1, v2] [] h := by
  unfold gm_cl' gm_ent
  rw [show gm_ml 140 = 3 by decide +kernel]
  rfl
theorem na_141 : gm_na 141 = 3 := by decide +kernel
theorem rt_141 : gm_rt 141 = (some .int) := by decide +kernel
theorem mc_141 : gm_mc 141 = 9 := by decide +kernel
theorem cl_141 {X : List Int32} {d : Nat} {v0 v1 v2 : Value} {h : gm_H} : gm_cl' X d 141 [v0, v1, v2] h = gm_ev X d 141 0 [v0, v1, v2] [] h := by
  unfold gm_cl' gm_ent
  rw [show gm_ml 141 = 3 by decide +kernel]
  rfl
theorem na_142 : gm_na 142 = 2 := by decide +kernel
theorem rt_142 : gm_rt 142 = (some .int) := by decide +kernel
theorem mc_142 : gm_mc 142 = 9 := by decide +kernel
theorem cl_142 {X : List Int32} {d : Nat} {v0 v1 : Value} {h : gm_H} : gm_cl' X d 142 [v0, v1] h = gm_ev X d 142 0 [v0, v1] [] h := by
  unfold gm_cl' gm_ent
  rw [show gm_ml 142 = 2 by decide +kernel]
  rfl
theorem na_143 : gm_na 143 = 2 := by decide +kernel
theorem rt_143 : gm_rt 143 = (some .int) := by decide +kernel
theorem mc_143 : gm_mc 143 = 9 := by decide +kernel
theorem cl_143 {X : List Int32} {d : Nat} {v0 v1 : Value} {h : gm_H} : gm_cl' X d 143 [v0, v1] h = gm_ev X d 143 0 [v0, v1, .retAddr 0, .retAddr 0, .retAddr 0, .retAddr 0] [] h := by
  unfold gm_cl' gm_ent
  rw [show gm_ml 143 = 6 by decide +kernel]
  rfl
theorem na_144 : gm_na 144 = 2 := by decide +kernel
theorem rt_144 : gm_rt 144 = (some .int) := by decide +kernel
theorem mc_144 : gm_mc 144 = 9 := by decide +kernel
theorem cl_144 {X : List Int32} {d : Nat} {v0 v1 : Value} {h : gm_H} : gm_cl' X d 144 [v0, v1] h = gm_ev X d 144 0 [v0, v1] [] h := by
  unfold gm_cl' gm_ent
  rw [show gm_ml 144 = 2 by decide +kernel]
  rfl
theorem na_145 : gm_na 145 = 3 := by decide +kernel
theorem rt_145 : gm_rt 145 = (some .int) := by decide +kernel
theorem mc_145 : gm_mc 145 = 9 := by decide +kernel
theorem cl_145 {X : List Int32} {d : Nat} {v0 v1 v2 : Value} {h : gm_H} : gm_cl' X d 145 [v0, v1, v2] h = gm_ev X d 145 0 [v0, v1, v2, .retAddr 0] [] h := by
  unfold gm_cl' gm_ent
  rw [show gm_ml 145 = 4 by decide +kernel]
  rfl
theorem na_146 : gm_na 146 = 2 := by decide +kernel
theorem rt_146 : gm_rt 146 = (some .int) := by decide +kernel
theorem mc_146 : gm_mc 146 = 9 := by decide +kernel
theorem cl_146 {X : List Int32} {d : Nat} {v0 v1 : Value} {h : gm_H} : gm_cl' X d 146 [v0, v1] h = gm_ev X d 146 0 [v0, v1, .retAddr 0, .retAddr 0, .retAddr 0, .retAddr 0, .retAddr 0] [] h := by
  unfold gm_cl' gm_ent
  rw [show gm_ml 146 = 7 by decide +kernel]
  rfl
theorem na_147 : gm_na 147 = 2 := by decide +kernel
theorem rt_147 : gm_rt 147 = none := by decide +kernel
theorem mc_147 : gm_mc 147 = 9 := by decide +kernel
theorem cl_147 {X : List Int32} {d : Nat} {v0 v1 : Value} {h : gm_H} : gm_cl' X d 147 [v0, v1] h = gm_ev X d 147 0 [v0, v1, .retAddr 0, .retAddr 0, .retAddr 0, .retAddr 0] [] h := by
  unfold gm_cl' gm_ent
  rw [show gm_ml 147 = 6 by decide +kernel]
  rfl
theorem na_148 : gm_na 148 = 1 := by decide +kernel
theorem rt_148 : gm_rt 148 = (some .int) := by decide +kernel
theorem mc_148 : gm_mc 148 = 9 := by decide +kernel
theorem cl_148 {X : List Int32} {d : Nat} {v0 : Value} {h : gm_H} : gm_cl' X d 148 [v0] h = gm_ev X d 148 0 [v0, .retAddr 0, .retAddr 0, .retAddr 0, .retAddr 0] [] h := by
  unfold gm_cl' gm_ent
  rw [show gm_ml 148 = 5 by decide +kernel]
  rfl
theorem na_149 : gm_na 149 = 2 := by decide +kernel
theorem rt_149 : gm_rt 149 = (some .int) := by decide +kernel
theorem mc_149 : gm_mc 149 = 9 := by decide +kernel
theorem cl_149 {X : List Int32} {d : Nat} {v0 v1 : Value} {h : gm_H} : gm_cl' X d 149 [v0, v1] h = gm_ev X d 149 0 [v0, v1, .retAddr 0, .retAddr 0] [] h := by
  unfold gm_cl' gm_ent
  rw [show gm_ml 149 = 4 by decide +kernel]
  rfl
theorem na_150 : gm_na 150 = 2 := by decide +kernel
theorem rt_150 : gm_rt 150 = (some .int) := by decide +kernel
theorem mc_150 : gm_mc 150 = 9 := by decide +kernel
theorem cl_150 {X : List Int32} {d : Nat} {v0 v1 : Value} {h : gm_H} : gm_cl' X d 150 [v0, v1] h = gm_ev X d 150 0 [v0, v1] [] h := by
  unfold gm_cl' gm_ent
  rw [show gm_ml 150 = 2 by decide +kernel]
  rfl
theorem na_151 : gm_na 151 = 1 := by decide +kernel
theorem rt_151 : gm_rt 151 = (some .int) := by decide +kernel
theorem mc_151 : gm_mc 151 = 9 := by decide +kernel
theorem cl_151 {X : List Int32} {d : Nat} {v0 : Value} {h : gm_H} : gm_cl' X d 151 [v0] h = gm_ev X d 151 0 [v0, .retAddr 0, .retAddr 0] [] h := by
  unfold gm_cl' gm_ent
  rw [show gm_ml 151 = 3 by decide +kernel]
  rfl
theorem na_152 : gm_na 152 = 2 := by decide +kernel
theorem rt_152 : gm_rt 152 = (some .int) := by decide +kernel
theorem mc_152 : gm_mc 152 = 9 := by decide +kernel
theorem cl_152 {X : List Int32} {d : Nat} {v0 v1 : Value} {h : gm_H} : gm_cl' X d 152 [v0, v1] h = gm_ev X d 152 0 [v0, v1, .retAddr 0, .retAddr 0] [] h := by
  unfold gm_cl' gm_ent
  rw [show gm_ml 152 = 4 by decide +kernel]
  rfl
theorem na_153 : gm_na 153 = 2 := by decide +kernel
theorem rt_153 : gm_rt 153 = (some .int) := by decide +kernel
theorem mc_153 : gm_mc 153 = 9 := by decide +kernel
theorem cl_153 {X : List Int32} {d : Nat} {v0 v1 : Value} {h : gm_H} : gm_cl' X d 153 [v0, v1] h = gm_ev X d 153 0 [v0, v1, .retAddr 0, .retAddr 0] [] h := by
  unfold gm_cl' gm_ent
  rw [show gm_ml 153 = 4 by decide +kernel]
  rfl
theorem na_154 : gm_na 154 = 2 := by decide +kernel
theorem rt_154 : gm_rt 154 = (some .int) := by decide +kernel
theorem mc_154 : gm_mc 154 = 9 := by decide +kernel
theorem cl_154 {X : List Int32} {d : Nat} {v0 v1 : Value} {h : gm_H} : gm_cl' X d 154 [v0, v1] h = gm_ev X d 154 0 [v0, v1] [] h := by
  unfold gm_cl' gm_ent
  rw [show gm_ml 154 = 2 by decide +kernel]
  rfl
theorem na_155 : gm_na 155 = 3 := by decide +kernel
theorem rt_155 : gm_rt 155 = (some .int) := by decide +kernel
theorem mc_155 : gm_mc 155 = 9 := by decide +kernel
theorem cl_155 {X : List Int32} {d : Nat} {v0 v1 v2 : Value} {h : gm_H} : gm_cl' X d 155 [v0, v1, v2] h = gm_ev X d 155 0 [v0, v1, v2] [] h := by
  unfold gm_cl' gm_ent
  rw [show gm_ml 155 = 3 by decide +kernel]
  rfl
theorem na_156 : gm_na 156 = 1 := by decide +kernel
theorem rt_156 : gm_rt 156 = (some .boolean) := by decide +kernel
theorem mc_156 : gm_mc 156 = 9 := by decide +kernel
theorem cl_156 {X : List Int32} {d : Nat} {v0 : Value} {h : gm_H} : gm_cl' X d 156 [v0] h = gm_ev X d 156 0 [v0, .retAddr 0, .retAddr 0] [] h := by
  unfold gm_cl' gm_ent
  rw [show gm_ml 156 = 3 by decide +kernel]
  rfl
theorem na_157 : gm_na 157 = 1 := by decide +kernel
theorem rt_157 : gm_rt 157 = (some .int) := by decide +kernel
theorem mc_157 : gm_mc 157 = 9 := by decide +kernel
theorem cl_157 {X : List Int32} {d : Nat} {v0 : Value} {h : gm_H} : gm_cl' X d 157 [v0] h = gm_ev X d 157 0 [v0, .retAddr 0] [] h := by
  unfold gm_cl' gm_ent
  rw [show gm_ml 157 = 2 by decide +kernel]
  rfl
theorem na_158 : gm_na 158 = 5 := by decide +kernel
theorem rt_158 : gm_rt 158 = (some .int) := by decide +kernel
theorem mc_158 : gm_mc 158 = 9 := by decide +kernel
theorem cl_158 {X : List Int32} {d : Nat} {v0 v1 v2 v3 v4 : Value} {h : gm_H} : gm_cl' X d 158 [v0, v1, v2, v3, v4] h = gm_ev X d 158 0 [v0, v1, v2, v3, v4] [] h := by
  unfold gm_cl' gm_ent
  rw [show gm_ml 158 = 5 by decide +kernel]
  rfl
theorem na_159 : gm_na 159 = 4 := by decide +kernel
theorem rt_159 : gm_rt 159 = (some .int) := by decide +kernel
theorem mc_159 : gm_mc 159 = 9 := by decide +kernel
theorem cl_159 {X : List Int32} {d : Nat} {v0 v1 v2 v3 : Value} {h : gm_H} : gm_cl' X d 159 [v0, v1, v2, v3] h = gm_ev X d 159 0 [v0, v1, v2, v3, .retAddr 0, .retAddr 0] [] h := by
  unfold gm_cl' gm_ent
  rw [show gm_ml 159 = 6 by decide +kernel]
  rfl
theorem na_160 : gm_na 160 = 1 := by decide +kernel
theorem rt_160 : gm_rt 160 = (some .boolean) := by decide +kernel
theorem mc_160 : gm_mc 160 = 9 := by decide +kernel
theorem cl_160 {X : List Int32} {d : Nat} {v0 : Value} {h : gm_H} : gm_cl' X d 160 [v0] h = gm_ev X d 160 0 [v0] [] h := by
  unfold gm_cl' gm_ent
  rw [show gm_ml 160 = 1 by decide +kernel]
  rfl
theorem na_161 : gm_na 161 = 3 := by decide +kernel
theorem rt_161 : gm_rt 161 = (some .int) := by decide +kernel
theorem mc_161 : gm_mc 161 = 9 := by decide +kernel
theorem cl_161 {X : List Int32} {d : Nat} {v0 v1 v2 : Value} {h : gm_H} : gm_cl' X d 161 [v0, v1, v2] h = gm_ev X d 161 0 [v0, v1, v2, .retAddr 0, .retAddr 0, .retAddr 0, .retAddr 0] [] h := by
  unfold gm_cl' gm_ent
  rw [show gm_ml 161 = 7 by decide +kernel]
  rfl
theorem na_162 : gm_na 162 = 3 := by decide +kernel
theorem rt_162 : gm_rt 162 = (some .int) := by decide +kernel
theorem mc_162 : gm_mc 162 = 9 := by decide +kernel
theorem cl_162 {X : List Int32} {d : Nat} {v0 v1 v2 : Value} {h : gm_H} : gm_cl' X d 162 [v0, v1, v2] h = gm_ev X d 162 0 [v0, v1, v2, .retAddr 0] [] h := by
  unfold gm_cl' gm_ent
  rw [show gm_ml 162 = 4 by decide +kernel]
  rfl
theorem na_163 : gm_na 163 = 2 := by decide +kernel
theorem rt_163 : gm_rt 163 = (some .int) := by decide +kernel
theorem mc_163 : gm_mc 163 = 9 := by decide +kernel
theorem cl_163 {X : List Int32} {d : Nat} {v0 v1 : Value} {h : gm_H} : gm_cl' X d 163 [v0, v1] h = gm_ev X d 163 0 [v0, v1, .retAddr 0, .retAddr 0, .retAddr 0, .retAddr 0] [] h := by
  unfold gm_cl' gm_ent
  rw [show gm_ml 163 = 6 by decide +kernel]
  rfl
theorem na_164 : gm_na 164 = 4 := by decide +kernel
theorem rt_164 : gm_rt 164 = (some .int) := by decide +kernel
theorem mc_164 : gm_mc 164 = 9 := by decide +kernel
theorem cl_164 {X : List Int32} {d : Nat} {v0 v1 v2 v3 : Value} {h : gm_H} : gm_cl' X d 164 [v0, v1, v2, v3] h = gm_ev X d 164 0 [v0, v1, v2, v3, .retAddr 0, .retAddr 0, .retAddr 0, .retAddr 0, .retAddr 0, .retAddr 0] [] h := by
  unfold gm_cl' gm_ent
  rw [show gm_ml 164 = 10 by decide +kernel]
  rfl
theorem na_165 : gm_na 165 = 1 := by decide +kernel
theorem rt_165 : gm_rt 165 = (some .int) := by decide +kernel
theorem mc_165 : gm_mc 165 = 9 := by decide +kernel
theorem cl_165 {X : List Int32} {d : Nat} {v0 : Value} {h : gm_H} : gm_cl' X d 165 [v0] h = gm_ev X d 165 0 [v0, .retAddr 0] [] h := by
  unfold gm_cl' gm_ent
  rw [show gm_ml 165 = 2 by decide +kernel]
  rfl
theorem na_166 : gm_na 166 = 2 := by decide +kernel
theorem rt_166 : gm_rt 166 = none := by decide +kernel
theorem mc_166 : gm_mc 166 = 9 := by decide +kernel
theorem cl_166 {X : List Int32} {d : Nat} {v0 v1 : Value} {h : gm_H} : gm_cl' X d 166 [v0, v1] h = gm_ev X d 166 0 [v0, v1, .retAddr 0] [] h := by
  unfold gm_cl' gm_ent
  rw [show gm_ml 166 = 3 by decide +kernel]
  rfl
theorem na_167 : gm_na 167 = 4 := by decide +kernel
theorem rt_167 : gm_rt 167 = (some .int) := by decide +kernel
theorem mc_167 : gm_mc 167 = 9 := by decide +kernel
theorem cl_167 {X : List Int32} {d : Nat} {v0 v1 v2 v3 : Value} {h : gm_H} : gm_cl' X d 167 [v0, v1, v2, v3] h = gm_ev X d 167 0 [v0, v1, v2, v3] [] h := by
  unfold gm_cl' gm_ent
  rw [show gm_ml 167 = 4 by decide +kernel]
  rfl
theorem na_168 : gm_na 168 = 2 := by decide +kernel
theorem rt_168 : gm_rt 168 = (some .int) := by decide +kernel
theorem mc_168 : gm_mc 168 = 9 := by decide +kernel
theorem cl_168 {X : List Int32} {d : Nat} {v0 v1 : Value} {h : gm_H} : gm_cl' X d 168 [v0, v1] h = gm_ev X d 168 0 [v0, v1] [] h := by
  unfold gm_cl' gm_ent
  rw [show gm_ml 168 = 2 by decide +kernel]
  rfl
theorem na_169 : gm_na 169 = 2 := by decide +kernel
theorem rt_169 : gm_rt 169 = (some .int) := by decide +kernel
theorem mc_169 : gm_mc 169 = 9 := by decide +kernel
theorem cl_169 {X : List Int32} {d : Nat} {v0 v1 : Value} {h : gm_H} : gm_cl' X d 169 [v0, v1] h = gm_ev X d 169 0 [v0, v1] [] h := by
  unfold gm_cl' gm_ent
  rw [show gm_ml 169 = 2 by decide +kernel]
  rfl
theorem na_170 : gm_na 170 = 1 := by decide +kernel
theorem rt_170 : gm_rt 170 = (some .int) := by decide +kernel
theorem mc_170 : gm_mc 170 = 9 := by decide +kernel
theorem cl_170 {X : List Int32} {d : Nat} {v0 : Value} {h : gm_H} : gm_cl' X d 170 [v0] h = gm_ev X d 170 0 [v0] [] h := by
  unfold gm_cl' gm_ent
  rw [show gm_ml 170 = 1 by decide +kernel]
  rfl
theorem na_171 : gm_na 171 = 1 := by decide +kernel
theorem rt_171 : gm_rt 171 = (some .boolean) := by decide +kernel
theorem mc_171 : gm_mc 171 = 9 := by decide +kernel
theorem cl_171 {X : List Int32} {d : Nat} {v0 : Value} {h : gm_H} : gm_cl' X d 171 [v0] h = gm_ev X d 171 0 [v0] [] h := by
  unfold gm_cl' gm_ent
  rw [show gm_ml 171 = 1 by decide +kernel]
  rfl
theorem na_172 : gm_na 172 = 1 := by decide +kernel
theorem rt_172 : gm_rt 172 = none := by decide +kernel
theorem mc_172 : gm_mc 172 = 9 := by decide +kernel
theorem cl_172 {X : List Int32} {d : Nat} {v0 : Value} {h : gm_H} : gm_cl' X d 172 [v0] h = gm_ev X d 172 0 [v0, .retAddr 0, .retAddr 0] [] h := by
  unfold gm_cl' gm_ent
  rw [show gm_ml 172 = 3 by decide +kernel]
  rfl
theorem na_173 : gm_na 173 = 2 := by decide +kernel
theorem rt_173 : gm_rt 173 = none := by decide +kernel
theorem mc_173 : gm_mc 173 = 9 := by decide +kernel
theorem cl_173 {X : List Int32} {d : Nat} {v0 v1 : Value} {h : gm_H} : gm_cl' X d 173 [v0, v1] h = gm_ev X d 173 0 [v0, v1] [] h := by
  unfold gm_cl' gm_ent
  rw [show gm_ml 173 = 2 by decide +kernel]
  rfl
theorem na_174 : gm_na 174 = 2 := by decide +kernel
theorem rt_174 : gm_rt 174 = (some .boolean) := by decide +kernel
theorem mc_174 : gm_mc 174 = 9 := by decide +kernel
theorem cl_174 {X : List Int32} {d : Nat} {v0 v1 : Value} {h : gm_H} : gm_cl' X d 174 [v0, v1] h = gm_ev X d 174 0 [v0, v1] [] h := by
  unfold gm_cl' gm_ent
  rw [show gm_ml 174 = 2 by decide +kernel]
  rfl
theorem na_175 : gm_na 175 = 2 := by decide +kernel
theorem rt_175 : gm_rt 175 = none := by decide +kernel
theorem mc_175 : gm_mc 175 = 9 := by decide +kernel
theorem cl_175 {X : List Int32} {d : Nat} {v0 v1 : Value} {h : gm_H} : gm_cl' X d 175 [v0, v1] h = gm_ev X d 175 0 [v0, v1] [] h := by
  unfold gm_cl' gm_ent
  rw [show gm_ml 175 = 2 by decide +kernel]
  rfl
theorem na_176 : gm_na 176 = 2 := by decide +kernel
theorem rt_176 : gm_rt 176 = (some .boolean) := by decide +kernel
theorem mc_176 : gm_mc 176 = 9 := by decide +kernel
theorem cl_176 {X : List Int32} {d : Nat} {v0 v1 : Value} {h : gm_H} : gm_cl' X d 176 [v0, v1] h = gm_ev X d 176 0 [v0, v1, .retAddr 0, .retAddr 0] [] h := by
  unfold gm_cl' gm_ent
  rw [show gm_ml 176 = 4 by decide +kernel]
  rfl
theorem na_177 : gm_na 177 = 1 := by decide +kernel
theorem rt_177 : gm_rt 177 = none := by decide +kernel
theorem mc_177 : gm_mc 177 = 9 := by decide +kernel
theorem cl_177 {X : List Int32} {d : Nat} {v0 : Value} {h : gm_H} : gm_cl' X d 177 [v0] h = gm_ev X d 177 0 [v0] [] h := by
  unfold gm_cl' gm_ent
  rw [show gm_ml 177 = 1 by decide +kernel]
  rfl
theorem na_178 : gm_na 178 = 1 := by decide +kernel
theorem rt_178 : gm_rt 178 = none := by decide +kernel
theorem mc_178 : gm_mc 178 = 9 := by decide +kernel
theorem cl_178 {X : List Int32} {d : Nat} {v0 : Value} {h : gm_H} : gm_cl' X d 178 [v0] h = gm_ev X d 178 0 [v0, .retAddr 0, .retAddr 0, .retAddr 0] [] h := by
  unfold gm_cl' gm_ent
  rw [show gm_ml 178 = 4 by decide +kernel]
  rfl
theorem na_179 : gm_na 179 = 1 := by decide +kernel
theorem rt_179 : gm_rt 179 = none := by decide +kernel
theorem mc_179 : gm_mc 179 = 9 := by decide +kernel
theorem cl_179 {X : List Int32} {d : Nat} {v0 : Value} {h : gm_H} : gm_cl' X d 179 [v0] h = gm_ev X d 179 0 [v0, .retAddr 0] [] h := by
  unfold gm_cl' gm_ent
  rw [show gm_ml 179 = 2 by decide +kernel]
  rfl
theorem na_180 : gm_na 180 = 1 := by decide +kernel
theorem rt_180 : gm_rt 180 = none := by decide +kernel
theorem mc_180 : gm_mc 180 = 9 := by decide +kernel
theorem cl_180 {X : List Int32} {d : Nat} {v0 : Value} {h : gm_H} : gm_cl' X d 180 [v0] h = gm_ev X d 180 0 [v0, .retAddr 0] [] h := by
  unfold gm_cl' gm_ent
  rw [show gm_ml 180 = 2 by decide +kernel]
  rfl
theorem na_181 : gm_na 181 = 1 := by decide +kernel
theorem rt_181 : gm_rt 181 = none := by decide +kernel
theorem mc_181 : gm_mc 181 = 9 := by decide +kernel
theorem cl_181 {X : List Int32} {d : Nat} {v0 : Value} {h : gm_H} : gm_cl' X d 181 [v0] h = gm_ev X d 181 0 [v0, .retAddr 0] [] h := by
  unfold gm_cl' gm_ent
  rw [show gm_ml 181 = 2 by decide +kernel]
  rfl
theorem na_182 : gm_na 182 = 1 := by decide +kernel
theorem rt_182 : gm_rt 182 = none := by decide +kernel
theorem mc_182 : gm_mc 182 = 9 := by decide +kernel
theorem cl_182 {X : List Int32} {d : Nat} {v0 : Value} {h : gm_H} : gm_cl' X d 182 [v0] h = gm_ev X d 182 0 [v0] [] h := by
  unfold gm_cl' gm_ent
  rw [show gm_ml 182 = 1 by decide +kernel]
  rfl
theorem na_183 : gm_na 183 = 1 := by decide +kernel
theorem rt_183 : gm_rt 183 = none := by decide +kernel
theorem mc_183 : gm_mc 183 = 9 := by decide +kernel
theorem cl_183 {X : List Int32} {d : Nat} {v0 : Value} {h : gm_H} : gm_cl' X d 183 [v0] h = gm_ev X d 183 0 [v0] [] h := by
  unfold gm_cl' gm_ent
  rw [show gm_ml 183 = 1 by decide +kernel]
  rfl
theorem na_184 : gm_na 184 = 1 := by decide +kernel
theorem rt_184 : gm_rt 184 = none := by decide +kernel
theorem mc_184 : gm_mc 184 = 9 := by decide +kernel
theorem cl_184 {X : List Int32} {d : Nat} {v0 : Value} {h : gm_H} : gm_cl' X d 184 [v0] h = gm_ev X d 184 0 [v0] [] h := by
  unfold gm_cl' gm_ent
  rw [show gm_ml 184 = 1 by decide +kernel]
  rfl
theorem na_185 : gm_na 185 = 1 := by decide +kernel
theorem rt_185 : gm_rt 185 = (some .int) := by decide +kernel
theorem mc_185 : gm_mc 185 = 9 := by decide +kernel
theorem cl_185 {X : List Int32} {d : Nat} {v0 : Value} {h : gm_H} : gm_cl' X d 185 [v0] h = gm_ev X d 185 0 [v0, .retAddr 0, .retAddr 0, .retAddr 0] [] h := by
  unfold gm_cl' gm_ent
  rw [show gm_ml 185 = 4 by decide +kernel]
  rfl
theorem na_186 : gm_na 186 = 3 := by decide +kernel
theorem rt_186 : gm_rt 186 = (some .int) := by decide +kernel
theorem mc_186 : gm_mc 186 = 9 := by decide +kernel
theorem cl_186 {X : List Int32} {d : Nat} {v0 v1 v2 : Value} {h : gm_H} : gm_cl' X d 186 [v0, v1, v2] h = gm_ev X d 186 0 [v0, v1, v2] [] h := by
  unfold gm_cl' gm_ent
  rw [show gm_ml 186 = 3 by decide +kernel]
  rfl
theorem na_187 : gm_na 187 = 2 := by decide +kernel
theorem rt_187 : gm_rt 187 = (some .int) := by decide +kernel
theorem mc_187 : gm_mc 187 = 9 := by decide +kernel
theorem cl_187 {X : List Int32} {d : Nat} {v0 v1 : Value} {h : gm_H} : gm_cl' X d 187 [v0, v1] h = gm_ev X d 187 0 [v0, v1, .retAddr 0, .retAddr 0] [] h := by
  unfold gm_cl' gm_ent
  rw [show gm_ml 187 = 4 by decide +kernel]
  rfl
theorem na_188 : gm_na 188 = 2 := by decide +kernel
theorem rt_188 : gm_rt 188 = (some .int) := by decide +kernel
theorem mc_188 : gm_mc 188 = 9 := by decide +kernel
theorem cl_188 {X : List Int32} {d : Nat} {v0 v1 : Value} {h : gm_H} : gm_cl' X d 188 [v0, v1] h = gm_ev X d 188 0 [v0, v1, .retAddr 0] [] h := by
  unfold gm_cl' gm_ent
  rw [show gm_ml 188 = 3 by decide +kernel]
  rfl
theorem na_189 : gm_na 189 = 3 := by decide +kernel
theorem rt_189 : gm_rt 189 = (some .int) := by decide +kernel
theorem mc_189 : gm_mc 189 = 9 := by decide +kernel
theorem cl_189 {X : List Int32} {d : Nat} {v0 v1 v2 : Value} {h : gm_H} : gm_cl' X d 189 [v0, v1, v2] h = gm_ev X d 189 0 [v0, v1, v2] [] h := by
  unfold gm_cl' gm_ent
  rw [show gm_ml 189 = 3 by decide +kernel]
  rfl
theorem na_190 : gm_na 190 = 2 := by decide +kernel
theorem rt_190 : gm_rt 190 = (some .int) := by decide +kernel
theorem mc_190 : gm_mc 190 = 9 := by decide +kernel
theorem cl_190 {X : List Int32} {d : Nat} {v0 v1 : Value} {h : gm_H} : gm_cl' X d 190 [v0, v1] h = gm_ev X d 190 0 [v0, v1, .retAddr 0, .retAddr 0, .retAddr 0, .retAddr 0] [] h := by
  unfold gm_cl' gm_ent
  rw [show gm_ml 190 = 6 by decide +kernel]
  rfl
theorem na_191 : gm_na 191 = 1 := by decide +kernel
theorem rt_191 : gm_rt 191 = (some .boolean) := by decide +kernel
theorem mc_191 : gm_mc 191 = 9 := by decide +kernel
theorem cl_191 {X : List Int32} {d : Nat} {v0 : Value} {h : gm_H} : gm_cl' X d 191 [v0] h = gm_ev X d 191 0 [v0] [] h := by
  unfold gm_cl' gm_ent
  rw [show gm_ml 191 = 1 by decide +kernel]
  rfl
theorem na_192 : gm_na 192 = 4 := by decide +kernel
theorem rt_192 : gm_rt 192 = (some .int) := by decide +kernel
theorem mc_192 : gm_mc 192 = 9 := by decide +kernel
theorem cl_192 {X : List Int32} {d : Nat} {v0 v1 v2 v3 : Value} {h : gm_H} : gm_cl' X d 192 [v0, v1, v2, v3] h = gm_ev X d 192 0 [v0, v1, v2, v3, .retAddr 0] [] h := by
  unfold gm_cl' gm_ent
  rw [show gm_ml 192 = 5 by decide +kernel]
  rfl
theorem na_193 : gm_na 193 = 4 := by decide +kernel
theorem rt_193 : gm_rt 193 = (some .int) := by decide +kernel
theorem mc_193 : gm_mc 193 = 9 := by decide +kernel
theorem cl_193 {X : List Int32} {d : Nat} {v0 v1 v2 v3 : Value} {h : gm_H} : gm_cl' X d 193 [v0, v1, v2, v3] h = gm_ev X d 193 0 [v0, v1, v2, v3] [] h := by
  unfold gm_cl' gm_ent
  rw [show gm_ml 193 = 4 by decide +kernel]
  rfl
theorem na_194 : gm_na 194 = 2 := by decide +kernel
theorem rt_194 : gm_rt 194 = (some .int) := by decide +kernel
theorem mc_194 : gm_mc 194 = 9 := by decide +kernel
theorem cl_194 {X : List Int32} {d : Nat} {v0 v1 : Value} {h : gm_H} : gm_cl' X d 194 [v0, v1] h = gm_ev X d 194 0 [v0, v1, .retAddr 0, .retAddr 0, .retAddr 0, .retAddr 0] [] h := by
  unfold gm_cl' gm_ent
  rw [show gm_ml 194 = 6 by decide +kernel]
  rfl
theorem na_195 : gm_na 195 = 2 := by decide +kernel
theorem rt_195 : gm_rt 195 = (some .int) := by decide +kernel
theorem mc_195 : gm_mc 195 = 9 := by decide +kernel
theorem cl_195 {X : List Int32} {d : Nat} {v0 v1 : Value} {h : gm_H} : gm_cl' X d 195 [v0, v1] h = gm_ev X d 195 0 [v0, v1, .retAddr 0, .retAddr 0] [] h := by
  unfold gm_cl' gm_ent
  rw [show gm_ml 195 = 4 by decide +kernel]
  rfl
theorem na_196 : gm_na 196 = 6 := by decide +kernel
theorem rt_196 : gm_rt 196 = (some .int) := by decide +kernel
theorem mc_196 : gm_mc 196 = 9 := by decide +kernel
theorem cl_196 {X : List Int32} {d : Nat} {v0 v1 v2 v3 v4 v5 : Value} {h : gm_H} : gm_cl' X d 196 [v0, v1, v2, v3, v4, v5] h = gm_ev X d 196 0 [v0, v1, v2, v3, v4, v5, .retAddr 0] [] h := by
  unfold gm_cl' gm_ent
  rw [show gm_ml 196 = 7 by decide +kernel]
  rfl
theorem na_197 : gm_na 197 = 1 := by decide +kernel
theorem rt_197 : gm_rt 197 = (some .boolean) := by decide +kernel
theorem mc_197 : gm_mc 197 = 9 := by decide +kernel
theorem cl_197 {X : List Int32} {d : Nat} {v0 : Value} {h : gm_H} : gm_cl' X d 197 [v0] h = gm_ev X d 197 0 [v0] [] h := by
  unfold gm_cl' gm_ent
  rw [show gm_ml 197 = 1 by decide +kernel]
  rfl
theorem na_198 : gm_na 198 = 3 := by decide +kernel
theorem rt_198 : gm_rt 198 = (some .int) := by decide +kernel
theorem mc_198 : gm_mc 198 = 9 := by decide +kernel
theorem cl_198 {X : List Int32} {d : Nat} {v0 v1 v2 : Value} {h : gm_H} : gm_cl' X d 198 [v0, v1, v2] h = gm_ev X d 198 0 [v0, v1, v2, .retAddr 0] [] h := by
  unfold gm_cl' gm_ent
  rw [show gm_ml 198 = 4 by decide +kernel]
  rfl
theorem na_199 : gm_na 199 = 4 := by decide +kernel
theorem rt_199 : gm_rt 199 = (some .int) := by decide +kernel
theorem mc_199 : gm_mc 199 = 9 := by decide +kernel
theorem cl_199 {X : List Int32} {d : Nat} {v0 v1 v2 v3 : Value} {h : gm_H} : gm_cl' X d 199 [v0, v1, v2, v3] h = gm_ev X d 199 0 [v0, v1, v2, v3, .retAddr 0, .retAddr 0, .retAddr 0] [] h := by
  unfold gm_cl' gm_ent
  rw [show gm_ml 199 = 7 by decide +kernel]
  rfl
theorem na_200 : gm_na 200 = 3 := by decide +kernel
theorem rt_200 : gm_rt 200 = (some .int) := by decide +kernel
theorem mc_200 : gm_mc 200 = 9 := by decide +kernel
theorem cl_200 {X : List Int32} {d : Nat} {v0 v1 v2 : Value} {h : gm_H} : gm_cl' X d 200 [v0, v1, v2] h = gm_ev X d 200 0 [v0, v1, v2, .retAddr 0] [] h := by
  unfold gm_cl' gm_ent
  rw [show gm_ml 200 = 4 by decide +kernel]
  rfl
theorem na_201 : gm_na 201 = 3 := by decide +kernel
theorem rt_201 : gm_rt 201 = (some .int) := by decide +kernel
theorem mc_201 : gm_mc 201 = 9 := by decide +kernel
theorem cl_201 {X : List Int32} {d : Nat} {v0 v1 v2 : Value} {h : gm_H} : gm_cl' X d 201 [v0, v1, v2] h = gm_ev X d 201 0 [v0, v1, v2, .retAddr 0] [] h := by
  unfold gm_cl' gm_ent
  rw [show gm_ml 201 = 4 by decide +kernel]
  rfl
theorem na_202 : gm_na 202 = 3 := by decide +kernel
theorem rt_202 : gm_rt 202 = (some .int) := by decide +kernel
theorem mc_202 : gm_mc 202 = 9 := by decide +kernel
theorem cl_202 {X : List Int32} {d : Nat} {v0 v1 v2 : Value} {h : gm_H} : gm_cl' X d 202 [v0, v1, v2] h = gm_ev X d 202 0 [v0, v1, v2] [] h := by
  unfold gm_cl' gm_ent
  rw [show gm_ml 202 = 3 by decide +kernel]
  rfl
theorem na_203 : gm_na 203 = 2 := by decide +kernel
theorem rt_203 : gm_rt 203 = (some .int) := by decide +kernel
theorem mc_203 : gm_mc 203 = 9 := by decide +kernel
theorem cl_203 {X : List Int32} {d : Nat} {v0 v1 : Value} {h : gm_H} : gm_cl' X d 203 [v0, v1] h = gm_ev X d 203 0 [v0, v1] [] h := by
  unfold gm_cl' gm_ent
  rw [show gm_ml 203 = 2 by decide +kernel]
  rfl
theorem na_204 : gm_na 204 = 2 := by decide +kernel
theorem rt_204 : gm_rt 204 = (some .int) := by decide +kernel
theorem mc_204 : gm_mc 204 = 9 := by decide +kernel
theorem cl_204 {X : List Int32} {d : Nat} {v0 v1 : Value} {h : gm_H} : gm_cl' X d 204 [v0, v1] h = gm_ev X d 204 0 [v0, v1, .retAddr 0, .retAddr 0, .retAddr 0, .retAddr 0, .retAddr 0, .retAddr 0] [] h := by
  unfold gm_cl' gm_ent
  rw [show gm_ml 204 = 8 by decide +kernel]
  rfl
theorem na_205 : gm_na 205 = 1 := by decide +kernel
theorem rt_205 : gm_rt 205 = (some .int) := by decide +kernel
theorem mc_205 : gm_mc 205 = 9 := by decide +kernel
theorem cl_205 {X : List Int32} {d : Nat} {v0 : Value} {h : gm_H} : gm_cl' X d 205 [v0] h = gm_ev X d 205 0 [v0] [] h := by
  unfold gm_cl' gm_ent
  rw [show gm_ml 205 = 1 by decide +kernel]
  rfl
theorem na_206 : gm_na 206 = 1 := by decide +kernel
theorem rt_206 : gm_rt 206 = (some .int) := by decide +kernel
theorem mc_206 : gm_mc 206 = 9 := by decide +kernel
theorem cl_206 {X : List Int32} {d : Nat} {v0 : Value} {h : gm_H} : gm_cl' X d 206 [v0] h = gm_ev X d 206 0 [v0] [] h := by
  unfold gm_cl' gm_ent
  rw [show gm_ml 206 = 1 by decide +kernel]
  rfl
theorem na_207 : gm_na 207 = 2 := by decide +kernel
theorem rt_207 : gm_rt 207 = (some .int) := by decide +kernel
theorem mc_207 : gm_mc 207 = 9 := by decide +kernel
theorem cl_207 {X : List Int32} {d : Nat} {v0 v1 : Value} {h : gm_H} : gm_cl' X d 207 [v0, v1] h = gm_ev X d 207 0 [v0, v1] [] h := by
  unfold gm_cl' gm_ent
  rw [show gm_ml 207 = 2 by decide +kernel]
  rfl
theorem na_208 : gm_na 208 = 1 := by decide +kernel
theorem rt_208 : gm_rt 208 = (some .int) := by decide +kernel
theorem mc_208 : gm_mc 208 = 20 := by decide +kernel
theorem cl_208 {X : List Int32} {d : Nat} {v0 : Value} {h : gm_H} : gm_cl' X d 208 [v0] h = gm_ev X d 208 0 [v0] [] h := by
  unfold gm_cl' gm_ent
  rw [show gm_ml 208 = 1 by decide +kernel]
  rfl
theorem na_209 : gm_na 209 = 1 := by decide +kernel
theorem rt_209 : gm_rt 209 = (some .byte) := by decide +kernel
theorem mc_209 : gm_mc 209 = 20 := by decide +kernel
theorem cl_209 {X : List Int32} {d : Nat} {v0 : Value} {h : gm_H} : gm_cl' X d 209 [v0] h = gm_ev X d 209 0 [v0] [] h := by
  unfold gm_cl' gm_ent
  rw [show gm_ml 209 = 1 by decide +kernel]
  rfl
theorem na_210 : gm_na 210 = 2 := by decide +kernel
theorem rt_210 : gm_rt 210 = (some .char) := by decide +kernel
theorem mc_210 : gm_mc 210 = 20 := by decide +kernel
theorem cl_210 {X : List Int32} {d : Nat} {v0 v1 : Value} {h : gm_H} : gm_cl' X d 210 [v0, v1] h = gm_ev X d 210 0 [v0, v1] [] h := by
  unfold gm_cl' gm_ent
  rw [show gm_ml 210 = 2 by decide +kernel]
  rfl
theorem na_211 : gm_na 211 = 1 := by decide +kernel
theorem rt_211 : gm_rt 211 = (some .boolean) := by decide +kernel
theorem mc_211 : gm_mc 211 = 20 := by decide +kernel
theorem cl_211 {X : List Int32} {d : Nat} {v0 : Value} {h : gm_H} : gm_cl' X d 211 [v0] h = gm_ev X d 211 0 [v0] [] h := by
  unfold gm_cl' gm_ent
  rw [show gm_ml 211 = 1 by decide +kernel]
  rfl
theorem na_212 : gm_na 212 = 2 := by decide +kernel
theorem rt_212 : gm_rt 212 = (some .int) := by decide +kernel
theorem mc_212 : gm_mc 212 = 20 := by decide +kernel
theorem cl_212 {X : List Int32} {d : Nat} {v0 v1 : Value} {h : gm_H} : gm_cl' X d 212 [v0, v1] h = gm_ev X d 212 0 [v0, v1] [] h := by
  unfold gm_cl' gm_ent
  rw [show gm_ml 212 = 2 by decide +kernel]
  rfl
theorem na_213 : gm_na 213 = 3 := by decide +kernel
theorem rt_213 : gm_rt 213 = (some .int) := by decide +kernel
theorem mc_213 : gm_mc 213 = 20 := by decide +kernel
theorem cl_213 {X : List Int32} {d : Nat} {v0 v1 v2 : Value} {h : gm_H} : gm_cl' X d 213 [v0, v1, v2] h = gm_ev X d 213 0 [v0, v1, v2] [] h := by
  unfold gm_cl' gm_ent
  rw [show gm_ml 213 = 3 by decide +kernel]
  rfl
theorem na_214 : gm_na 214 = 2 := by decide +kernel
theorem rt_214 : gm_rt 214 = none := by decide +kernel
theorem mc_214 : gm_mc 214 = 20 := by decide +kernel
theorem cl_214 {X : List Int32} {d : Nat} {v0 v1 : Value} {h : gm_H} : gm_cl' X d 214 [v0, v1] h = gm_ev X d 214 0 [v0, v1] [] h := by
  unfold gm_cl' gm_ent
  rw [show gm_ml 214 = 2 by decide +kernel]
  rfl
theorem na_215 : gm_na 215 = 2 := by decide +kernel
theorem rt_215 : gm_rt 215 = (some .char) := by decide +kernel
theorem mc_215 : gm_mc 215 = 21 := by decide +kernel
theorem cl_215 {X : List Int32} {d : Nat} {v0 v1 : Value} {h : gm_H} : gm_cl' X d 215 [v0, v1] h = gm_ev X d 215 0 [v0, v1] [] h := by
  unfold gm_cl' gm_ent
  rw [show gm_ml 215 = 2 by decide +kernel]
  rfl
theorem na_216 : gm_na 216 = 1 := by decide +kernel
theorem rt_216 : gm_rt 216 = (some .boolean) := by decide +kernel
theorem mc_216 : gm_mc 216 = 21 := by decide +kernel
theorem cl_216 {X : List Int32} {d : Nat} {v0 : Value} {h : gm_H} : gm_cl' X d 216 [v0] h = gm_ev X d 216 0 [v0] [] h := by
  unfold gm_cl' gm_ent
  rw [show gm_ml 216 = 1 by decide +kernel]
  rfl
theorem na_217 : gm_na 217 = 4 := by decide +kernel
theorem rt_217 : gm_rt 217 = (some .int) := by decide +kernel
theorem mc_217 : gm_mc 217 = 21 := by decide +kernel
theorem cl_217 {X : List Int32} {d : Nat} {v0 v1 v2 v3 : Value} {h : gm_H} : gm_cl' X d 217 [v0, v1, v2, v3] h = gm_ev X d 217 0 [v0, v1, v2, v3] [] h := by
  unfold gm_cl' gm_ent
  rw [show gm_ml 217 = 4 by decide +kernel]
  rfl
theorem na_218 : gm_na 218 = 4 := by decide +kernel
theorem rt_218 : gm_rt 218 = (some .int) := by decide +kernel
theorem mc_218 : gm_mc 218 = 21 := by decide +kernel
theorem cl_218 {X : List Int32} {d : Nat} {v0 v1 v2 v3 : Value} {h : gm_H} : gm_cl' X d 218 [v0, v1, v2, v3] h = gm_ev X d 218 0 [v0, v1, v2, v3, .retAddr 0, .retAddr 0] [] h := by
  unfold gm_cl' gm_ent
  rw [show gm_ml 218 = 6 by decide +kernel]
  rfl
theorem na_219 : gm_na 219 = 3 := by decide +kernel
theorem rt_219 : gm_rt 219 = (some .int) := by decide +kernel
theorem mc_219 : gm_mc 219 = 22 := by decide +kernel
theorem cl_219 {X : List Int32} {d : Nat} {v0 v1 v2 : Value} {h : gm_H} : gm_cl' X d 219 [v0, v1, v2] h = gm_ev X d 219 0 [v0, v1, v2] [] h := by
  unfold gm_cl' gm_ent
  rw [show gm_ml 219 = 3 by decide +kernel]
  rfl
theorem na_220 : gm_na 220 = 2 := by decide +kernel
theorem rt_220 : gm_rt 220 = (some .int) := by decide +kernel
theorem mc_220 : gm_mc 220 = 23 := by decide +kernel
theorem cl_220 {X : List Int32} {d : Nat} {v0 v1 : Value} {h : gm_H} : gm_cl' X d 220 [v0, v1] h = gm_ev X d 220 0 [v0, v1] [] h := by
  unfold gm_cl' gm_ent
  rw [show gm_ml 220 = 2 by decide +kernel]
  rfl
theorem na_221 : gm_na 221 = 2 := by decide +kernel
theorem rt_221 : gm_rt 221 = (some .int) := by decide +kernel
theorem mc_221 : gm_mc 221 = 23 := by decide +kernel
theorem cl_221 {X : List Int32} {d : Nat} {v0 v1 : Value} {h : gm_H} : gm_cl' X d 221 [v0, v1] h = gm_ev X d 221 0 [v0, v1] [] h := by
  unfold gm_cl' gm_ent
  rw [show gm_ml 221 = 2 by decide +kernel]
  rfl
theorem na_222 : gm_na 222 = 1 := by decide +kernel
theorem rt_222 : gm_rt 222 = (some .int) := by decide +kernel
theorem mc_222 : gm_mc 222 = 23 := by decide +kernel
theorem cl_222 {X : List Int32} {d : Nat} {v0 : Value} {h : gm_H} : gm_cl' X d 222 [v0] h = gm_ev X d 222 0 [v0] [] h := by
  unfold gm_cl' gm_ent
  rw [show gm_ml 222 = 1 by decide +kernel]
  rfl
theorem na_223 : gm_na 223 = 1 := by decide +kernel
theorem rt_223 : gm_rt 223 = (some .boolean) := by decide +kernel
theorem mc_223 : gm_mc 223 = 10 := by decide +kernel
theorem cl_223 {X : List Int32} {d : Nat} {v0 : Value} {h : gm_H} : gm_cl' X d 223 [v0] h = gm_ev X d 223 0 [v0, .retAddr 0, .retAddr 0, .retAddr 0] [] h := by
  unfold gm_cl' gm_ent
  rw [show gm_ml 223 = 4 by decide +kernel]
  rfl
