def gm_fld (f : Nat) : String × String × String := if f = 2000 then (RJ0, "value", "[B") else if f = 2001 then (RJ0, "coder", "B") else (((gm_cl.getD (f / 100) ("", TX0, 0)).2.1 (f % 100)).1, ((gm_cl.getD (f / 100) ("", TX0, 0)).2.1 (f % 100)).2.1, ((gm_cl.getD (f / 100) ("", TX0, 0)).2.1 (f % 100)).2.2.1)
theorem gm_pF_ok : gm_pF.all (fun e => gm_in e.2.2.2 (.fieldLink (gm_cn e.1) e.2.1 (gm_fld e.2.2.1).1 (gm_fld e.2.2.1).2.1 (gm_fld e.2.2.1).2.2) && (e.2.2.1 == 2000 || (e.2.2.1 == 2001 || (e.2.2.1 / 100 < 10 && e.2.2.1 % 100 < (gm_cl.getD (e.2.2.1 / 100) ("", TX0, 0)).2.2)))) = true := by decide +kernel
theorem gm_pK_ok : gm_pK.all (fun e => gm_in e.2.2.2 (.constant (gm_cn e.1) e.2.1 (Int32.ofInt e.2.2.1))) = true := by decide +kernel
theorem gm_pC_ok : gm_pC.all (fun e => gm_in e.2.2.2 (.classLink (gm_cn e.1) e.2.1 (gm_cn (if e.2.2.1 < 100 then e.2.2.1 else gm_tc (e.2.2.1 - 100))))) = true := by decide +kernel
def gm_mok (e : Nat × Nat × Nat × Nat × Nat × Nat × Nat × Nat × Nat) : Bool := match e with
  | (kd, oc, idx, j, kl, ki, ks, kn, _) =>
    if kd = 3 then gm_in kl (.methodLink (gm_cn oc) idx objectInit)
    else if kd = 4 then gm_in kl (.methodLink (gm_cn oc) idx arraycopyName)
    else gm_in kl (.methodLink (gm_cn oc) idx (gm_y j)) && (gm_in kn (.initialized (gm_y j).cls) && (decide (j < 223) && (decide ((parseMethodDescriptor (gm_y j).desc).map (fun d => d.parameters.length) = some (if kd = 1 then gm_na j else gm_na j - 1)) &&
      (if kd = 0 then gm_in ki (.instanceMethod (gm_y j)) && (gm_in ks (.selects (gm_y j).cls (gm_y j) (gm_y j)) && decide (0 < gm_na j))
       else if kd = 1 then gm_in ki (.static (gm_y j))
       else gm_in ki (.instanceMethod (gm_y j)) && (decide ((gm_y j).name = "<init>") && (decide (gm_rt j = none) && decide (0 < gm_na j)))))))
theorem gm_pM0_ok : gm_pM0.all gm_mok = true := by decide +kernel
theorem gm_pM1_ok : gm_pM1.all gm_mok = true := by decide +kernel
theorem gm_pM2_ok : gm_pM2.all gm_mok = true := by decide +kernel
theorem gm_pM3_ok : gm_pM3.all gm_mok = true := by decide +kernel
theorem gm_pM4_ok : gm_pM4.all gm_mok = true := by decide +kernel
theorem gm_pM5_ok : gm_pM5.all gm_mok = true := by decide +kernel
theorem gm_pM6_ok : gm_pM6.all gm_mok = true := by decide +kernel
theorem gm_all_app2 {a b : List (Nat × Nat × Nat × Nat × Nat × Nat × Nat × Nat × Nat)} (h : a.all gm_mok = true) (k : b.all gm_mok = true) : (a ++ b).all gm_mok = true := by rw [List.all_append, h, k]; rfl
theorem gm_pM_ok : gm_pM.all gm_mok = true := (gm_all_app2 gm_pM0_ok (gm_all_app2 gm_pM1_ok (gm_all_app2 gm_pM2_ok (gm_all_app2 gm_pM3_ok (gm_all_app2 gm_pM4_ok (gm_all_app2 gm_pM5_ok gm_pM6_ok))))))
def gm_nok (e : Nat × Nat × Nat × Nat × Nat × Nat × Nat) : Bool := match e with
  | (_, _, j, ki, kn, _, _) => gm_in ki (.static (gm_y j)) && (gm_in kn (.initialized (gm_y j).cls) && (decide (j < 223) && decide ((parseMethodDescriptor (gm_y j).desc).map (fun d => d.parameters.length) = some (gm_na j))))
theorem gm_pN_ok : gm_pN2.all gm_nok = true := by decide +kernel
def gm_miok (q : gm_MI) : Bool := q.2.2.2.2.1 ≤ q.2.2.1 && (q.2.2.1 ≤ 12 && (decide (gm_cn q.2.2.2.2.2 = q.1.cls) && (decide (q.1.cls ≠ "java/lang/invoke/MethodHandle") && (decide (q.1.cls ≠ "java/lang/invoke/VarHandle") && (plainFor q.1 && (match q.2.2.2.1 with
  | none => true
  | some .int => true
  | some .boolean => true
  | some .byte => true
  | some .char => true
  | _ => false))))))
theorem gm_mt_ok : gm_mt.all gm_miok = true := by decide +kernel
theorem gm_mi_ok (i : Nat) : gm_miok (gm_mi i) = true := by
  unfold gm_mi
  rw [List.getD_eq_getElem?_getD]
  cases h : gm_mt[i]? with
  | none => rw [Option.getD_none]; decide +kernel
  | some q => exact List.all_eq_true.mp gm_mt_ok q (List.mem_of_getElem? h)
theorem gm_cl_in : ∀ k, k < 10 → ∀ w ∈ u_ws (gm_cl.getD k ("", TX0, 0)).1 (gm_cl.getD k ("", TX0, 0)).2.1 (gm_cl.getD k ("", TX0, 0)).2.2, w ∈ gm_gw := by
  intro k hk
  have h : ∀ k, k < 10 → (u_ws (gm_cl.getD k ("", TX0, 0)).1 (gm_cl.getD k ("", TX0, 0)).2.1 (gm_cl.getD k ("", TX0, 0)).2.2).all (fun w => decide (w ∈ lw_tbl) && goodWord w) = true := by decide +kernel
  intro w hw
  have h1 := List.all_eq_true.mp (h k hk) w hw
  simp only [Bool.and_eq_true, decide_eq_true_eq] at h1
  exact List.mem_filter.mpr h1
theorem gm_cl_ty : ∀ k, k < 10 → ∀ j, j < (gm_cl.getD k ("", TX0, 0)).2.2 → parseFieldDescriptor ((gm_cl.getD k ("", TX0, 0)).2.1 j).2.2.1 = some ((gm_tyl.getD k (fun _ => .int)) j) := by decide +kernel
theorem gm_cl_nm : ∀ k, k < 10 → ∀ a, a < (gm_cl.getD k ("", TX0, 0)).2.2 → ∀ b, b < (gm_cl.getD k ("", TX0, 0)).2.2 → a ≠ b → ((gm_cl.getD k ("", TX0, 0)).2.1 a).2.1 ≠ ((gm_cl.getD k ("", TX0, 0)).2.1 b).2.1 := by decide +kernel
theorem gm_cl_dc : ∀ k, k < 10 → ∀ j, j < (gm_cl.getD k ("", TX0, 0)).2.2 → ((gm_cl.getD k ("", TX0, 0)).2.1 j).1 = gm_cn k := by decide +kernel
theorem gm_cl_cn : ∀ k, k < 10 → (gm_cl.getD k ("", TX0, 0)).1 = gm_cn k := by decide +kernel
theorem gm_cl_lt : ∀ k, k < 10 → (gm_cl.getD k ("", TX0, 0)).2.2 < 100 := by decide +kernel
theorem gm_cl_ins : ∀ k, k < 10 → Cond.instantiable (gm_cn k) (gm_cl.getD k ("", TX0, 0)).2.2 ∈ gm_gw ∧ Cond.initialized (gm_cn k) ∈ gm_gw := by
  have h : ∀ k, k < 10 → (decide (Cond.instantiable (gm_cn k) (gm_cl.getD k ("", TX0, 0)).2.2 ∈ lw_tbl) && (goodWord (Cond.instantiable (gm_cn k) (gm_cl.getD k ("", TX0, 0)).2.2) && (decide (Cond.initialized (gm_cn k) ∈ lw_tbl) && goodWord (Cond.initialized (gm_cn k))))) = true := by decide +kernel
  intro k hk
  have h1 := h k hk
  simp only [Bool.and_eq_true, decide_eq_true_eq] at h1
  exact ⟨List.mem_filter.mpr ⟨h1.1, h1.2.1⟩, List.mem_filter.mpr ⟨h1.2.2.1, h1.2.2.2⟩⟩
theorem gm_w_ac : Cond.arrayClass .int ∈ gm_gw := gm_in_ok (k := 100) (by decide +kernel)
theorem gm_w_oi : Cond.instanceMethod objectInit ∈ gm_gw ∧ Cond.code objectInit ⟨#[0xb1]⟩ 1 none ∈ gm_gw := ⟨gm_in_ok (k := 72) (by decide +kernel), gm_in_ok (k := 73) (by decide +kernel)⟩
theorem gm_w_cp : Cond.native arraycopyName ∈ gm_gw ∧ Cond.static arraycopyName ∈ gm_gw ∧ Cond.initialized "java/lang/System" ∈ gm_gw := ⟨gm_in_ok (k := 559) (by decide +kernel), gm_in_ok (k := 558) (by decide +kernel), gm_in_ok (k := 60) (by decide +kernel)⟩
theorem gm_w_mn : Cond.classLink (gm_cn 7) 9 "[[I" ∈ gm_gw := gm_in_ok (k := 80) (by decide +kernel)
theorem gm_w_st : Cond.fieldLink (gm_cn 20) 38 "java/lang/String" "COMPACT_STRINGS" "Z" ∈ gm_gw ∧ Cond.fieldLink (gm_cn 20) 1053 "jdk/internal/util/Preconditions" "SIOOBE_FORMATTER" "Ljava/util/function/BiFunction;" ∈ gm_gw := ⟨gm_in_ok (k := 672) (by decide +kernel), gm_in_ok (k := 688) (by decide +kernel)⟩
