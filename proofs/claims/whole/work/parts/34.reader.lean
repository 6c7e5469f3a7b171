-- the class's reader
def rC (B : Nat → Nat) (c t ky : Nat) (u : gt_M) (s : pS) : Prop := u 7 0 = nI c ∧ u 7 1 = nI s.1 ∧ u 7 2 = nI s.2.1 ∧ u 7 3 = nI s.2.2.1 ∧ (∀ k, k < c → u 8 k = nI (B k)) ∧ u 9 0 = nI t ∧ u 9 1 = nI (2 * ky + 2) ∧ u 3 t = nI s.2.2.2.1.length ∧ (∀ j, j < s.2.2.2.1.length → u (21 + t) j = nI (s.2.2.2.1.getD j 0)) ∧ u 5 t = nI s.2.2.2.2
def fC (t : Nat) (u u' : gt_M) : Prop := (∀ b, b ≠ 3 → b ≠ 5 → b ≠ 7 → b ≠ 21 + t → u' b = u b) ∧ (∀ o, o ≠ t → u' 3 o = u 3 o) ∧ (∀ o, o ≠ t → u' 5 o = u 5 o)
theorem fC_refl {t : Nat} {u : gt_M} : fC t u u := ⟨fun _ _ _ _ _ => rfl, fun _ _ => rfl, fun _ _ => rfl⟩
theorem fC_trans {t : Nat} {u u' u'' : gt_M} (h : fC t u u') (k : fC t u' u'') : fC t u u'' := ⟨fun b h1 h2 h3 h4 => by rw [k.1 b h1 h2 h3 h4, h.1 b h1 h2 h3 h4], fun o ho => by rw [k.2.1 o ho, h.2.1 o ho], fun o ho => by rw [k.2.2 o ho, h.2.2 o ho]⟩
theorem gD_l {l : List Nat} {x j : Nat} (h : j < l.length) : (l ++ [x]).getD j 0 = l.getD j 0 := by
  rw [List.getD_eq_getElem?_getD, List.getD_eq_getElem?_getD, List.getElem?_append_left h]
theorem gD_r {l : List Nat} {x j : Nat} (h : j = l.length) : (l ++ [x]).getD j 0 = x := by
  subst h
  rw [List.getD_eq_getElem?_getD, List.getElem?_append_right (Nat.le_refl _), Nat.sub_self]
  rfl
def sgI (B : Nat → Nat) (s : pS) : Int32 := if s.1 = 3 then nI (B s.2.1) else -1000000005
def pcR (X : List Int32) (B : Nat → Nat) (c t ky f : Nat) : Prop := ∀ (p q : Nat) (s : pS) (u : gt_M) (D : Nat), p ≤ 8 → q ≤ 8 → 7 * ((8 - p) + (8 - q)) + 1 ≤ f → 9 * (8 - p) + 2 * (8 - q) + 10 ≤ D → okT B c s → rC B c t ky u s → s.2.2.2.1.length ≤ s.2.1 → ∃ u', gm_cl' X D 31 [.ref 84, .int (nI p), .int (nI q)] (gt_h u) = some (some (.int (if (pG B c ky f 5 p q s).1 = true then nI 1 else nI 0)), gt_h u') ∧ rC B c t ky u' (pG B c ky f 5 p q s).2 ∧ fC t u u'
def lvR (X : List Int32) (B : Nat → Nat) (c t ky f : Nat) : Prop := ∀ (lv p q : Nat) (s : pS) (u : gt_M) (D : Nat), lv ≤ 5 → p ≤ 8 → q ≤ 8 → 7 * ((8 - p) + (8 - q)) + (5 - lv) + 1 ≤ f → 9 * (8 - p) + 2 * (8 - q) + (6 - lv) + 10 ≤ D → okT B c s → rC B c t ky u s → s.2.2.2.1.length ≤ s.2.1 → ∃ u', gm_cl' X D 29 [.ref 84, .int (nI lv), .int (nI p), .int (nI q)] (gt_h u) = some (some (.int (if (pG B c ky f lv p q s).1 = true then nI 1 else nI 0)), gt_h u') ∧ rC B c t ky u' (pG B c ky f lv p q s).2 ∧ fC t u u'
section C34
variable {X : List Int32} {d c t ky n f : Nat} {u : gt_M} {B : Nat → Nat} {h : gm_H} {s : pS}
theorem sgI_eq {g : Nat} (hg : 0 < g) (hg2 : g < 256) (hb : ∀ k, B k < 256) : (sgI B s = nI g) = (sgS B s = g) := by
  unfold sgI sgS
  have hb := hb s.2.1
  by_cases c1 : s.1 = 3
  · rw [if_pos c1, if_pos c1, L_eq (by omega) (by omega)]
  · rw [if_neg c1, if_neg c1]
    apply propext
    constructor
    · intro y
      have := nn_NONE (t := g) (by omega)
      exact absurd y.symm (by rw [this]; exact id)
    · intro y
      omega
theorem sgI_nI (h3 : s.1 = 3) : sgI B s = nI (sgS B s) := by
  unfold sgI sgS
  rw [if_pos h3, if_pos h3]
theorem sgS_lt (hb : ∀ k, B k < 256) : sgS B s < 256 := by
  unfold sgS
  split
  · exact hb _
  · omega
theorem rC_sign (hc : c ≤ 96) (ok : okT B c s) (h : rC B c t ky u s) : gm_cl' X d 46 [.ref 82] (gt_h u) = some (some (.int (sgI B s)), gt_h u) := by
  obtain ⟨h0, h1, h2, h3, h4, _⟩ := h
  obtain ⟨o1, o2, o3, o4, o5, o6⟩ := ok
  exact c_sign hc h0 h1 o1 h2 (by omega) (fun y => by have := o4 y; omega) h4
theorem c_lvN {b : Nat} (hb : b < 256) : gm_cl' X d 30 [.int (nI b)] h = some (some (.int (nI (lvO b))), h) := by
  rw [cl_30]
  have : b = 124 ∨ b = 38 ∨ b = 60 ∨ b = 61 ∨ b = 62 ∨ b = 43 ∨ b = 45 ∨ b = 42 ∨ b = 47 ∨ (¬ b = 124 ∧ ¬ b = 38 ∧ ¬ b = 60 ∧ ¬ b = 61 ∧ ¬ b = 62 ∧ ¬ b = 43 ∧ ¬ b = 45 ∧ ¬ b = 42 ∧ ¬ b = 47) := by omega
  unfold lvO
  rcases this with rfl | rfl | rfl | rfl | rfl | rfl | rfl | rfl | rfl | ⟨e1, e2, e3, e4, e5, e6, e7, e8, e9⟩
  · simp -implicitDefEqProofs (disch := first | (with_reducible first | exact rt_30 | exact c1_i | exact c1_r | exact of_eq_false nf_zGC | exact of_eq_false nf_zBA | exact of_eq_false nf_zDA | exact of_eq_false nf_zCA | exact of_eq_false nf_zBC | exact of_eq_false nf_zDC | exact of_eq_false nf_zSC | exact of_eq_false nf_zSP | exact of_eq_false nf_zLC | exact of_eq_false nf_zLB | exact of_eq_false nf_zLS | exact of_eq_false nf_zLP | exact of_eq_false nf_zTR) | omega | exact Nat.le_of_ble_eq_true rfl | ((with_reducible refine nI_ne0 ?_ ?_) <;> omega)) only [bk_30_0, tn_0, bl_il0, bl_sw, ev_sw1, ev_sw0, ti_38, ti_42, ti_43, ti_45, ti_47, ti_60, ti_61, ti_62, ti_124, bk_30_84, tn_84, bl_c0, bl_ri, bl_rz, bl_rz1, bl_rz0, bk_30_86, tn_86, bl_c1, bk_30_88, tn_88, bl_c2, bk_30_90, tn_90, bk_30_92, tn_92, bk_30_94, tn_94, bl_c3, bk_30_96, tn_96, bk_30_98, tn_98, bl_c4, bk_30_100, tn_100, bk_30_102, tn_102, bl_c5, Option.bind_some, Option.bind_none, Option.toList_some, Option.toList_none, List.cons_append, List.nil_append, not_false_eq_true, not_true_eq_false, nI_10, nI_00, bI_0, bI_n0, if_true, if_false, true_and, and_true, and_false, false_and, Classical.not_not, ↓reduceIte, eq_self, Nat.reduceAdd, Nat.reduceMul, bl_nil, z_lt, z_le, z_gt, z_ge, nI_add, nI_mul, nI_sub, L_lt, L_le, L_eq, L_e0, N_ltT, N_ltF, N_leT, N_leF, N_eqT, N_eqF, gs_hit, gs_miss]
  · simp -implicitDefEqProofs (disch := first | (with_reducible first | exact rt_30 | exact c1_i | exact c1_r | exact of_eq_false nf_zGC | exact of_eq_false nf_zBA | exact of_eq_false nf_zDA | exact of_eq_false nf_zCA | exact of_eq_false nf_zBC | exact of_eq_false nf_zDC | exact of_eq_false nf_zSC | exact of_eq_false nf_zSP | exact of_eq_false nf_zLC | exact of_eq_false nf_zLB | exact of_eq_false nf_zLS | exact of_eq_false nf_zLP | exact of_eq_false nf_zTR) | omega | exact Nat.le_of_ble_eq_true rfl | ((with_reducible refine nI_ne0 ?_ ?_) <;> omega)) only [bk_30_0, tn_0, bl_il0, bl_sw, ev_sw1, ev_sw0, ti_38, ti_42, ti_43, ti_45, ti_47, ti_60, ti_61, ti_62, ti_124, bk_30_84, tn_84, bl_c0, bl_ri, bl_rz, bl_rz1, bl_rz0, bk_30_86, tn_86, bl_c1, bk_30_88, tn_88, bl_c2, bk_30_90, tn_90, bk_30_92, tn_92, bk_30_94, tn_94, bl_c3, bk_30_96, tn_96, bk_30_98, tn_98, bl_c4, bk_30_100, tn_100, bk_30_102, tn_102, bl_c5, Option.bind_some, Option.bind_none, Option.toList_some, Option.toList_none, List.cons_append, List.nil_append, not_false_eq_true, not_true_eq_false, nI_10, nI_00, bI_0, bI_n0, if_true, if_false, true_and, and_true, and_false, false_and, Classical.not_not, ↓reduceIte, eq_self, Nat.reduceAdd, Nat.reduceMul, bl_nil, z_lt, z_le, z_gt, z_ge, nI_add, nI_mul, nI_sub, L_lt, L_le, L_eq, L_e0, N_ltT, N_ltF, N_leT, N_leF, N_eqT, N_eqF, gs_hit, gs_miss]
  · simp -implicitDefEqProofs (disch := first | (with_reducible first | exact rt_30 | exact c1_i | exact c1_r | exact of_eq_false nf_zGC | exact of_eq_false nf_zBA | exact of_eq_false nf_zDA | exact of_eq_false nf_zCA | exact of_eq_false nf_zBC | exact of_eq_false nf_zDC | exact of_eq_false nf_zSC | exact of_eq_false nf_zSP | exact of_eq_false nf_zLC | exact of_eq_false nf_zLB | exact of_eq_false nf_zLS | exact of_eq_false nf_zLP | exact of_eq_false nf_zTR) | omega | exact Nat.le_of_ble_eq_true rfl | ((with_reducible refine nI_ne0 ?_ ?_) <;> omega)) only [bk_30_0, tn_0, bl_il0, bl_sw, ev_sw1, ev_sw0, ti_38, ti_42, ti_43, ti_45, ti_47, ti_60, ti_61, ti_62, ti_124, bk_30_84, tn_84, bl_c0, bl_ri, bl_rz, bl_rz1, bl_rz0, bk_30_86, tn_86, bl_c1, bk_30_88, tn_88, bl_c2, bk_30_90, tn_90, bk_30_92, tn_92, bk_30_94, tn_94, bl_c3, bk_30_96, tn_96, bk_30_98, tn_98, bl_c4, bk_30_100, tn_100, bk_30_102, tn_102, bl_c5, Option.bind_some, Option.bind_none, Option.toList_some, Option.toList_none, List.cons_append, List.nil_append, not_false_eq_true, not_true_eq_false, nI_10, nI_00, bI_0, bI_n0, if_true, if_false, true_and, and_true, and_false, false_and, Classical.not_not, ↓reduceIte, eq_self, Nat.reduceAdd, Nat.reduceMul, bl_nil, z_lt, z_le, z_gt, z_ge, nI_add, nI_mul, nI_sub, L_lt, L_le, L_eq, L_e0, N_ltT, N_ltF, N_leT, N_leF, N_eqT, N_eqF, gs_hit, gs_miss]
  · simp -implicitDefEqProofs (disch := first | (with_reducible first | exact rt_30 | exact c1_i | exact c1_r | exact of_eq_false nf_zGC | exact of_eq_false nf_zBA | exact of_eq_false nf_zDA | exact of_eq_false nf_zCA | exact of_eq_false nf_zBC | exact of_eq_false nf_zDC | exact of_eq_false nf_zSC | exact of_eq_false nf_zSP | exact of_eq_false nf_zLC | exact of_eq_false nf_zLB | exact of_eq_false nf_zLS | exact of_eq_false nf_zLP | exact of_eq_false nf_zTR) | omega | exact Nat.le_of_ble_eq_true rfl | ((with_reducible refine nI_ne0 ?_ ?_) <;> omega)) only [bk_30_0, tn_0, bl_il0, bl_sw, ev_sw1, ev_sw0, ti_38, ti_42, ti_43, ti_45, ti_47, ti_60, ti_61, ti_62, ti_124, bk_30_84, tn_84, bl_c0, bl_ri, bl_rz, bl_rz1, bl_rz0, bk_30_86, tn_86, bl_c1, bk_30_88, tn_88, bl_c2, bk_30_90, tn_90, bk_30_92, tn_92, bk_30_94, tn_94, bl_c3, bk_30_96, tn_96, bk_30_98, tn_98, bl_c4, bk_30_100, tn_100, bk_30_102, tn_102, bl_c5, Option.bind_some, Option.bind_none, Option.toList_some, Option.toList_none, List.cons_append, List.nil_append, not_false_eq_true, not_true_eq_false, nI_10, nI_00, bI_0, bI_n0, if_true, if_false, true_and, and_true, and_false, false_and, Classical.not_not, ↓reduceIte, eq_self, Nat.reduceAdd, Nat.reduceMul, bl_nil, z_lt, z_le, z_gt, z_ge, nI_add, nI_mul, nI_sub, L_lt, L_le, L_eq, L_e0, N_ltT, N_ltF, N_leT, N_leF, N_eqT, N_eqF, gs_hit, gs_miss]
  · simp -implicitDefEqProofs (disch := first | (with_reducible first | exact rt_30 | exact c1_i | exact c1_r | exact of_eq_false nf_zGC | exact of_eq_false nf_zBA | exact of_eq_false nf_zDA | exact of_eq_false nf_zCA | exact of_eq_false nf_zBC | exact of_eq_false nf_zDC | exact of_eq_false nf_zSC | exact of_eq_false nf_zSP | exact of_eq_false nf_zLC | exact of_eq_false nf_zLB | exact of_eq_false nf_zLS | exact of_eq_false nf_zLP | exact of_eq_false nf_zTR) | omega | exact Nat.le_of_ble_eq_true rfl | ((with_reducible refine nI_ne0 ?_ ?_) <;> omega)) only [bk_30_0, tn_0, bl_il0, bl_sw, ev_sw1, ev_sw0, ti_38, ti_42, ti_43, ti_45, ti_47, ti_60, ti_61, ti_62, ti_124, bk_30_84, tn_84, bl_c0, bl_ri, bl_rz, bl_rz1, bl_rz0, bk_30_86, tn_86, bl_c1, bk_30_88, tn_88, bl_c2, bk_30_90, tn_90, bk_30_92, tn_92, bk_30_94, tn_94, bl_c3, bk_30_96, tn_96, bk_30_98, tn_98, bl_c4, bk_30_100, tn_100, bk_30_102, tn_102, bl_c5, Option.bind_some, Option.bind_none, Option.toList_some, Option.toList_none, List.cons_append, List.nil_append, not_false_eq_true, not_true_eq_false, nI_10, nI_00, bI_0, bI_n0, if_true, if_false, true_and, and_true, and_false, false_and, Classical.not_not, ↓reduceIte, eq_self, Nat.reduceAdd, Nat.reduceMul, bl_nil, z_lt, z_le, z_gt, z_ge, nI_add, nI_mul, nI_sub, L_lt, L_le, L_eq, L_e0, N_ltT, N_ltF, N_leT, N_leF, N_eqT, N_eqF, gs_hit, gs_miss]
  · simp -implicitDefEqProofs (disch := first | (with_reducible first | exact rt_30 | exact c1_i | exact c1_r | exact of_eq_false nf_zGC | exact of_eq_false nf_zBA | exact of_eq_false nf_zDA | exact of_eq_false nf_zCA | exact of_eq_false nf_zBC | exact of_eq_false nf_zDC | exact of_eq_false nf_zSC | exact of_eq_false nf_zSP | exact of_eq_false nf_zLC | exact of_eq_false nf_zLB | exact of_eq_false nf_zLS | exact of_eq_false nf_zLP | exact of_eq_false nf_zTR) | omega | exact Nat.le_of_ble_eq_true rfl | ((with_reducible refine nI_ne0 ?_ ?_) <;> omega)) only [bk_30_0, tn_0, bl_il0, bl_sw, ev_sw1, ev_sw0, ti_38, ti_42, ti_43, ti_45, ti_47, ti_60, ti_61, ti_62, ti_124, bk_30_84, tn_84, bl_c0, bl_ri, bl_rz, bl_rz1, bl_rz0, bk_30_86, tn_86, bl_c1, bk_30_88, tn_88, bl_c2, bk_30_90, tn_90, bk_30_92, tn_92, bk_30_94, tn_94, bl_c3, bk_30_96, tn_96, bk_30_98, tn_98, bl_c4, bk_30_100, tn_100, bk_30_102, tn_102, bl_c5, Option.bind_some, Option.bind_none, Option.toList_some, Option.toList_none, List.cons_append, List.nil_append, not_false_eq_true, not_true_eq_false, nI_10, nI_00, bI_0, bI_n0, if_true, if_false, true_and, and_true, and_false, false_and, Classical.not_not, ↓reduceIte, eq_self, Nat.reduceAdd, Nat.reduceMul, bl_nil, z_lt, z_le, z_gt, z_ge, nI_add, nI_mul, nI_sub, L_lt, L_le, L_eq, L_e0, N_ltT, N_ltF, N_leT, N_leF, N_eqT, N_eqF, gs_hit, gs_miss]
  · simp -implicitDefEqProofs (disch := first | (with_reducible first | exact rt_30 | exact c1_i | exact c1_r | exact of_eq_false nf_zGC | exact of_eq_false nf_zBA | exact of_eq_false nf_zDA | exact of_eq_false nf_zCA | exact of_eq_false nf_zBC | exact of_eq_false nf_zDC | exact of_eq_false nf_zSC | exact of_eq_false nf_zSP | exact of_eq_false nf_zLC | exact of_eq_false nf_zLB | exact of_eq_false nf_zLS | exact of_eq_false nf_zLP | exact of_eq_false nf_zTR) | omega | exact Nat.le_of_ble_eq_true rfl | ((with_reducible refine nI_ne0 ?_ ?_) <;> omega)) only [bk_30_0, tn_0, bl_il0, bl_sw, ev_sw1, ev_sw0, ti_38, ti_42, ti_43, ti_45, ti_47, ti_60, ti_61, ti_62, ti_124, bk_30_84, tn_84, bl_c0, bl_ri, bl_rz, bl_rz1, bl_rz0, bk_30_86, tn_86, bl_c1, bk_30_88, tn_88, bl_c2, bk_30_90, tn_90, bk_30_92, tn_92, bk_30_94, tn_94, bl_c3, bk_30_96, tn_96, bk_30_98, tn_98, bl_c4, bk_30_100, tn_100, bk_30_102, tn_102, bl_c5, Option.bind_some, Option.bind_none, Option.toList_some, Option.toList_none, List.cons_append, List.nil_append, not_false_eq_true, not_true_eq_false, nI_10, nI_00, bI_0, bI_n0, if_true, if_false, true_and, and_true, and_false, false_and, Classical.not_not, ↓reduceIte, eq_self, Nat.reduceAdd, Nat.reduceMul, bl_nil, z_lt, z_le, z_gt, z_ge, nI_add, nI_mul, nI_sub, L_lt, L_le, L_eq, L_e0, N_ltT, N_ltF, N_leT, N_leF, N_eqT, N_eqF, gs_hit, gs_miss]
  · simp -implicitDefEqProofs (disch := first | (with_reducible first | exact rt_30 | exact c1_i | exact c1_r | exact of_eq_false nf_zGC | exact of_eq_false nf_zBA | exact of_eq_false nf_zDA | exact of_eq_false nf_zCA | exact of_eq_false nf_zBC | exact of_eq_false nf_zDC | exact of_eq_false nf_zSC | exact of_eq_false nf_zSP | exact of_eq_false nf_zLC | exact of_eq_false nf_zLB | exact of_eq_false nf_zLS | exact of_eq_false nf_zLP | exact of_eq_false nf_zTR) | omega | exact Nat.le_of_ble_eq_true rfl | ((with_reducible refine nI_ne0 ?_ ?_) <;> omega)) only [bk_30_0, tn_0, bl_il0, bl_sw, ev_sw1, ev_sw0, ti_38, ti_42, ti_43, ti_45, ti_47, ti_60, ti_61, ti_62, ti_124, bk_30_84, tn_84, bl_c0, bl_ri, bl_rz, bl_rz1, bl_rz0, bk_30_86, tn_86, bl_c1, bk_30_88, tn_88, bl_c2, bk_30_90, tn_90, bk_30_92, tn_92, bk_30_94, tn_94, bl_c3, bk_30_96, tn_96, bk_30_98, tn_98, bl_c4, bk_30_100, tn_100, bk_30_102, tn_102, bl_c5, Option.bind_some, Option.bind_none, Option.toList_some, Option.toList_none, List.cons_append, List.nil_append, not_false_eq_true, not_true_eq_false, nI_10, nI_00, bI_0, bI_n0, if_true, if_false, true_and, and_true, and_false, false_and, Classical.not_not, ↓reduceIte, eq_self, Nat.reduceAdd, Nat.reduceMul, bl_nil, z_lt, z_le, z_gt, z_ge, nI_add, nI_mul, nI_sub, L_lt, L_le, L_eq, L_e0, N_ltT, N_ltF, N_leT, N_leF, N_eqT, N_eqF, gs_hit, gs_miss]
  · simp -implicitDefEqProofs (disch := first | (with_reducible first | exact rt_30 | exact c1_i | exact c1_r | exact of_eq_false nf_zGC | exact of_eq_false nf_zBA | exact of_eq_false nf_zDA | exact of_eq_false nf_zCA | exact of_eq_false nf_zBC | exact of_eq_false nf_zDC | exact of_eq_false nf_zSC | exact of_eq_false nf_zSP | exact of_eq_false nf_zLC | exact of_eq_false nf_zLB | exact of_eq_false nf_zLS | exact of_eq_false nf_zLP | exact of_eq_false nf_zTR) | omega | exact Nat.le_of_ble_eq_true rfl | ((with_reducible refine nI_ne0 ?_ ?_) <;> omega)) only [bk_30_0, tn_0, bl_il0, bl_sw, ev_sw1, ev_sw0, ti_38, ti_42, ti_43, ti_45, ti_47, ti_60, ti_61, ti_62, ti_124, bk_30_84, tn_84, bl_c0, bl_ri, bl_rz, bl_rz1, bl_rz0, bk_30_86, tn_86, bl_c1, bk_30_88, tn_88, bl_c2, bk_30_90, tn_90, bk_30_92, tn_92, bk_30_94, tn_94, bl_c3, bk_30_96, tn_96, bk_30_98, tn_98, bl_c4, bk_30_100, tn_100, bk_30_102, tn_102, bl_c5, Option.bind_some, Option.bind_none, Option.toList_some, Option.toList_none, List.cons_append, List.nil_append, not_false_eq_true, not_true_eq_false, nI_10, nI_00, bI_0, bI_n0, if_true, if_false, true_and, and_true, and_false, false_and, Classical.not_not, ↓reduceIte, eq_self, Nat.reduceAdd, Nat.reduceMul, bl_nil, z_lt, z_le, z_gt, z_ge, nI_add, nI_mul, nI_sub, L_lt, L_le, L_eq, L_e0, N_ltT, N_ltF, N_leT, N_leF, N_eqT, N_eqF, gs_hit, gs_miss]
  · simp -implicitDefEqProofs (disch := first | (with_reducible first | exact rt_30 | exact c1_i | exact c1_r | exact of_eq_false nf_zGC | exact of_eq_false nf_zBA | exact of_eq_false nf_zDA | exact of_eq_false nf_zCA | exact of_eq_false nf_zBC | exact of_eq_false nf_zDC | exact of_eq_false nf_zSC | exact of_eq_false nf_zSP | exact of_eq_false nf_zLC | exact of_eq_false nf_zLB | exact of_eq_false nf_zLS | exact of_eq_false nf_zLP | exact of_eq_false nf_zTR) | omega | exact Nat.le_of_ble_eq_true rfl | ((with_reducible refine nI_ne0 ?_ ?_) <;> omega)) only [bk_30_0, tn_0, bl_il0, bl_sw, ev_sw1, ev_sw0, ti_38, ti_42, ti_43, ti_45, ti_47, ti_60, ti_61, ti_62, ti_124, bk_30_84, tn_84, bl_c0, bl_ri, bl_rz, bl_rz1, bl_rz0, bk_30_86, tn_86, bl_c1, bk_30_88, tn_88, bl_c2, bk_30_90, tn_90, bk_30_92, tn_92, bk_30_94, tn_94, bl_c3, bk_30_96, tn_96, bk_30_98, tn_98, bl_c4, bk_30_100, tn_100, bk_30_102, tn_102, bl_c5, Option.bind_some, Option.bind_none, Option.toList_some, Option.toList_none, List.cons_append, List.nil_append, not_false_eq_true, not_true_eq_false, nI_10, nI_00, bI_0, bI_n0, if_true, if_false, true_and, and_true, and_false, false_and, Classical.not_not, ↓reduceIte, eq_self, Nat.reduceAdd, Nat.reduceMul, bl_nil, z_lt, z_le, z_gt, z_ge, nI_add, nI_mul, nI_sub, L_lt, L_le, L_eq, L_e0, N_ltT, N_ltF, N_leT, N_leF, N_eqT, N_eqF, gs_hit, gs_miss, e1, e2, e3, e4, e5, e6, e7, e8, e9]
theorem c_lvI (hb : ∀ k, B k < 256) : gm_cl' X d 30 [.int (sgI B s)] h = some (some (.int (nI (lvO (sgS B s)))), h) := by
  unfold sgI sgS
  by_cases c1 : s.1 = 3
  · rw [if_pos c1, if_pos c1]
    exact c_lvN (hb _)
  · rw [if_neg c1, if_neg c1, cl_30, bk_30_0]
    have e : (gm_sw 102 (Int32.toInt (-1000000005)) [(38, 86), (42, 98), (43, 94), (45, 96), (47, 100), (60, 88), (61, 90), (62, 92), (124, 84)]).toNat = 102 := by decide +kernel
    have e5 : lvO 0 = 5 := rfl
    simp -implicitDefEqProofs (disch := first | (with_reducible first | exact rt_30 | exact c1_i | exact c1_r | exact of_eq_false nf_zGC | exact of_eq_false nf_zBA | exact of_eq_false nf_zDA | exact of_eq_false nf_zCA | exact of_eq_false nf_zBC | exact of_eq_false nf_zDC | exact of_eq_false nf_zSC | exact of_eq_false nf_zSP | exact of_eq_false nf_zLC | exact of_eq_false nf_zLB | exact of_eq_false nf_zLS | exact of_eq_false nf_zLP | exact of_eq_false nf_zTR) | omega | exact Nat.le_of_ble_eq_true rfl | ((with_reducible refine nI_ne0 ?_ ?_) <;> omega)) only [bk_30_0, tn_0, bl_il0, bl_sw, ti_38, ti_42, ti_43, ti_45, ti_47, ti_60, ti_61, ti_62, ti_124, bk_30_84, tn_84, bl_c0, bl_ri, bl_rz, bl_rz1, bl_rz0, bk_30_86, tn_86, bl_c1, bk_30_88, tn_88, bl_c2, bk_30_90, tn_90, bk_30_92, tn_92, bk_30_94, tn_94, bl_c3, bk_30_96, tn_96, bk_30_98, tn_98, bl_c4, bk_30_100, tn_100, bk_30_102, tn_102, bl_c5, Option.bind_some, Option.bind_none, Option.toList_some, Option.toList_none, List.cons_append, List.nil_append, not_false_eq_true, not_true_eq_false, nI_10, nI_00, bI_0, bI_n0, if_true, if_false, true_and, and_true, and_false, false_and, Classical.not_not, ↓reduceIte, eq_self, Nat.reduceAdd, Nat.reduceMul, bl_nil, z_lt, z_le, z_gt, z_ge, nI_add, nI_mul, nI_sub, L_lt, L_le, L_eq, L_e0, N_ltT, N_ltF, N_leT, N_leF, N_eqT, N_eqF, gs_hit, gs_miss, e, e5]
theorem c_addStep {x : Int32} (ht : t < 15) (hz : u 3 t = nI n) (hn : n < 96) : gm_cl' X d 53 [.ref 1, .int (nI t), .int x] (gt_h u) = some (none, gt_h (gt_set (gt_set u (21 + t) n x) 3 t (nI (n + 1)))) := by
  rw [cl_53]
  simp -implicitDefEqProofs (disch := first | (with_reducible first | exact rt_53 | exact c1_i | exact c1_r | exact of_eq_false nf_zGC | exact of_eq_false nf_zBA | exact of_eq_false nf_zDA | exact of_eq_false nf_zCA | exact of_eq_false nf_zBC | exact of_eq_false nf_zDC | exact of_eq_false nf_zSC | exact of_eq_false nf_zSP | exact of_eq_false nf_zLC | exact of_eq_false nf_zLB | exact of_eq_false nf_zLS | exact of_eq_false nf_zLP | exact of_eq_false nf_zTR) | omega | exact Nat.le_of_ble_eq_true rfl | ((with_reducible refine nI_ne0 ?_ ?_) <;> omega)) only [bk_53_0, tn_0, bl_al0, bf_1_1, bl_il1, ba_zCA, ba_zTR, ba_zSP, ba_zLP, ba_18, ba_19, ba_20, ba_21, ba_83, ba_87, ba_117, ba_118, ba_119, ba_120, ba_123, ba_124, ba_125, ba_126, ba_127, ba_128, ba_129, ba_130, ba_131, ba_132, bl_c96, bl_ic_ge, bf_1_0, br_zBA, br_zDA, br_2, br_85, br_86, br_121, br_122, bl_il2, bw_zCA, bw_zTR, bw_zSP, bw_zLP, bw_18, bw_19, bw_20, bw_21, bw_83, bw_87, bw_117, bw_118, bw_119, bw_120, bw_123, bw_124, bw_125, bw_126, bw_127, bw_128, bw_129, bw_130, bw_131, bw_132, bl_dup2, bl_c1, bl_iadd, bk_53_35, tn_35, bl_rv, Option.bind_some, Option.bind_none, Option.toList_some, Option.toList_none, List.cons_append, List.nil_append, not_false_eq_true, not_true_eq_false, nI_10, nI_00, bI_0, bI_n0, if_true, if_false, true_and, and_true, and_false, false_and, Classical.not_not, ↓reduceIte, eq_self, Nat.reduceAdd, Nat.reduceMul, bl_nil, z_lt, z_le, z_gt, z_ge, nI_add, nI_mul, nI_sub, L_lt, L_le, L_eq, L_e0, N_ltT, N_ltF, N_leT, N_leF, N_eqT, N_eqF, gs_hit, gs_miss, hz]
theorem c_addLeaf {x : Int32} {v : Nat} (ht : t < 15) (hz : u 3 t = nI n) (hn : n < 96) (hv : u 5 t = nI v) : gm_cl' X (d + 1) 52 [.ref 1, .int (nI t), .int x] (gt_h u) = some (none, gt_h (gt_set (gt_set (gt_set u 5 t (nI (v + 1))) (21 + t) n x) 3 t (nI (n + 1)))) := by
  rw [cl_52]
  have e := c_addStep (X := X) (d := d) (u := gt_set u 5 t (nI (v + 1))) (x := x) ht (by rw [gs_rowne (by omega)]; exact hz) hn
  simp -implicitDefEqProofs (disch := first | (with_reducible first | exact rt_52 | exact na_53 | exact k_1.trans mc_53.symm | exact c1_i | exact c1_r | exact of_eq_false nf_zGC | exact of_eq_false nf_zBA | exact of_eq_false nf_zDA | exact of_eq_false nf_zCA | exact of_eq_false nf_zBC | exact of_eq_false nf_zDC | exact of_eq_false nf_zSC | exact of_eq_false nf_zSP | exact of_eq_false nf_zLC | exact of_eq_false nf_zLB | exact of_eq_false nf_zLS | exact of_eq_false nf_zLP | exact of_eq_false nf_zTR) | omega | exact Nat.le_of_ble_eq_true rfl | ((with_reducible refine nI_ne0 ?_ ?_) <;> omega)) only [bk_52_0, tn_0, bl_al0, bf_1_3, bl_il1, bl_dup2, ba_zCA, ba_zTR, ba_zSP, ba_zLP, ba_18, ba_19, ba_20, ba_21, ba_83, ba_87, ba_117, ba_118, ba_119, ba_120, ba_123, ba_124, ba_125, ba_126, ba_127, ba_128, ba_129, ba_130, ba_131, ba_132, bl_c1, bl_iadd, bw_zCA, bw_zTR, bw_zSP, bw_zLP, bw_18, bw_19, bw_20, bw_21, bw_83, bw_87, bw_117, bw_118, bw_119, bw_120, bw_123, bw_124, bw_125, bw_126, bw_127, bw_128, bw_129, bw_130, bw_131, bw_132, bl_il2, bl_iv3, bl_rv, Option.bind_some, Option.bind_none, Option.toList_some, Option.toList_none, List.cons_append, List.nil_append, not_false_eq_true, not_true_eq_false, nI_10, nI_00, bI_0, bI_n0, if_true, if_false, true_and, and_true, and_false, false_and, Classical.not_not, ↓reduceIte, eq_self, Nat.reduceAdd, Nat.reduceMul, bl_nil, z_lt, z_le, z_gt, z_ge, nI_add, nI_mul, nI_sub, L_lt, L_le, L_eq, L_e0, N_ltT, N_ltF, N_leT, N_leF, N_eqT, N_eqF, gs_hit, gs_miss, hv, e]
theorem rC_step (hc : c ≤ 96) (hb : ∀ k, B k < 256) (ok : okT B c s) (h4 : s.1 ≠ 4) (h : rC B c t ky u s) : ∃ u', gm_cl' X (d + 2) 43 [.ref 82] (gt_h u) = some (none, gt_h u') ∧ rC B c t ky u' (nxS B c s) ∧ fC t u u' := by
  obtain ⟨h0, h1, h2, h3, hB, h9, h91, hz, hr, hv⟩ := h
  obtain ⟨o1, o2, o3, o4, o5, o6⟩ := ok
  refine ⟨tkS u (nxT B c s.1 s.2.2.1), c_step hc h0 h1 (by omega) h3 o3 hB hb, ⟨?_, ?_, ?_, ?_, fun k hk => ?_, ?_, ?_, ?_, fun j hj => ?_, ?_⟩, ⟨fun b _ _ hb7 _ => ?_, fun o ho => ?_, fun o ho => ?_⟩⟩
  all_goals unfold tkS
  · rw [gs_miss (by omega), gs_miss (by omega), gs_miss (by omega)]; exact h0
  · rw [gs_miss (by omega), gt_set_eq]; rfl
  · rw [gs_miss (by omega), gs_miss (by omega), gt_set_eq]; rfl
  · rw [gt_set_eq]; rfl
  · rw [gs_rowne (by omega), gs_rowne (by omega), gs_rowne (by omega)]; exact hB k hk
  · rw [gs_rowne (by omega), gs_rowne (by omega), gs_rowne (by omega)]; exact h9
  · rw [gs_rowne (by omega), gs_rowne (by omega), gs_rowne (by omega)]; exact h91
  · rw [gs_rowne (by omega), gs_rowne (by omega), gs_rowne (by omega)]; exact hz
  · rw [gs_rowne (by omega), gs_rowne (by omega), gs_rowne (by omega)]; exact hr j hj
  · rw [gs_rowne (by omega), gs_rowne (by omega), gs_rowne (by omega)]; exact hv
  · rw [gs_rowne hb7, gs_rowne hb7, gs_rowne hb7]
  · rw [gs_rowne (by omega), gs_rowne (by omega), gs_rowne (by omega)]
  · rw [gs_rowne (by omega), gs_rowne (by omega), gs_rowne (by omega)]
theorem rC_em {x : Nat} (ht : t < 15) (h : rC B c t ky u s) (hn : s.2.2.2.1.length < 96) : ∃ u', gm_cl' X d 53 [.ref 1, .int (nI t), .int (nI x)] (gt_h u) = some (none, gt_h u') ∧ rC B c t ky u' (emS x s) ∧ fC t u u' := by
  obtain ⟨h0, h1, h2, h3, hB, h9, h91, hz, hr, hv⟩ := h
  refine ⟨_, c_addStep ht hz hn, ⟨?_, ?_, ?_, ?_, fun k hk => ?_, ?_, ?_, ?_, fun j hj => ?_, ?_⟩, ⟨fun b hb3 _ _ hb7 => ?_, fun o ho => ?_, fun o ho => ?_⟩⟩
  · rw [gs_rowne (by omega), gs_rowne (by omega)]; exact h0
  · rw [gs_rowne (by omega), gs_rowne (by omega)]; exact h1
  · rw [gs_rowne (by omega), gs_rowne (by omega)]; exact h2
  · rw [gs_rowne (by omega), gs_rowne (by omega)]; exact h3
  · rw [gs_rowne (by omega), gs_rowne (by omega)]; exact hB k hk
  · rw [gs_rowne (by omega), gs_rowne (by omega)]; exact h9
  · rw [gs_rowne (by omega), gs_rowne (by omega)]; exact h91
  · rw [gt_set_eq]
    show _ = nI (s.2.2.2.1 ++ [x]).length
    rw [List.length_append]
    rfl
  · have hj : j < (s.2.2.2.1 ++ [x]).length := hj
    show _ = nI ((s.2.2.2.1 ++ [x]).getD j 0)
    rw [List.length_append, List.length_singleton] at hj
    rw [gs_rowne (by omega)]
    by_cases c1 : j = s.2.2.2.1.length
    · rw [gs_hit ⟨rfl, c1⟩, gD_r c1]
    · rw [gs_miss (by omega), gD_l (by omega)]
      exact hr j (by omega)
  · rw [gs_rowne (by omega), gs_rowne (by omega)]; exact hv
  · rw [gs_rowne hb3, gs_rowne hb7]
  · rw [gs_miss (by omega), gs_rowne (by omega)]
  · rw [gs_rowne (by omega), gs_rowne (by omega)]
theorem rC_el {x : Nat} (ht : t < 15) (h : rC B c t ky u s) (hn : s.2.2.2.1.length < 96) : ∃ u', gm_cl' X (d + 1) 52 [.ref 1, .int (nI t), .int (nI x)] (gt_h u) = some (none, gt_h u') ∧ rC B c t ky u' (elS x s) ∧ fC t u u' := by
  obtain ⟨h0, h1, h2, h3, hB, h9, h91, hz, hr, hv⟩ := h
  refine ⟨_, c_addLeaf ht hz hn hv, ⟨?_, ?_, ?_, ?_, fun k hk => ?_, ?_, ?_, ?_, fun j hj => ?_, ?_⟩, ⟨fun b hb3 hb5 _ hb7 => ?_, fun o ho => ?_, fun o ho => ?_⟩⟩
  · rw [gs_rowne (by omega), gs_rowne (by omega), gs_rowne (by omega)]; exact h0
  · rw [gs_rowne (by omega), gs_rowne (by omega), gs_rowne (by omega)]; exact h1
  · rw [gs_rowne (by omega), gs_rowne (by omega), gs_rowne (by omega)]; exact h2
  · rw [gs_rowne (by omega), gs_rowne (by omega), gs_rowne (by omega)]; exact h3
  · rw [gs_rowne (by omega), gs_rowne (by omega), gs_rowne (by omega)]; exact hB k hk
  · rw [gs_rowne (by omega), gs_rowne (by omega), gs_rowne (by omega)]; exact h9
  · rw [gs_rowne (by omega), gs_rowne (by omega), gs_rowne (by omega)]; exact h91
  · rw [gt_set_eq]
    show _ = nI (s.2.2.2.1 ++ [x]).length
    rw [List.length_append]
    rfl
  · have hj : j < (s.2.2.2.1 ++ [x]).length := hj
    show _ = nI ((s.2.2.2.1 ++ [x]).getD j 0)
    rw [List.length_append, List.length_singleton] at hj
    rw [gs_rowne (by omega)]
    by_cases c1 : j = s.2.2.2.1.length
    · rw [gs_hit ⟨rfl, c1⟩, gD_r c1]
    · rw [gs_miss (by omega), gD_l (by omega), gs_rowne (by omega)]
      exact hr j (by omega)
  · rw [gs_rowne (by omega), gs_rowne (by omega), gt_set_eq]; rfl
  · rw [gs_rowne hb3, gs_rowne hb7, gs_rowne hb5]
  · rw [gs_miss (by omega), gs_rowne (by omega), gs_rowne (by omega)]
  · rw [gs_rowne (by omega), gs_rowne (by omega), gs_miss (by omega)]
theorem rC_f {s' : pS} (h : rC B c t ky u s) : u 9 0 = nI t ∧ u 9 1 = nI (2 * ky + 2) := ⟨h.2.2.2.2.2.1, h.2.2.2.2.2.2.1⟩
theorem ok_len (ok : okT B c s) (hc : c ≤ 96) (hl : s.2.2.2.1.length + 1 ≤ s.2.1) : s.2.2.2.1.length < 96 := by
  obtain ⟨o1, o2, o3, o4, o5, o6⟩ := ok
  omega
theorem c_not {p q D : Nat} (hk : ky < 3) (hc : c ≤ 96) (ht : t < 15) (hb : ∀ k, B k < 256) (hP : pcR X B c t ky f) (hp : p ≤ 8) (hq : q ≤ 7) (hf : 7 * ((8 - p) + (8 - q)) + 1 ≤ f + 1) (hD : 9 * (8 - p) + 2 * (8 - q) + 10 ≤ D + 10) (ok : okT B c s) (h3 : s.1 = 3) (h : rC B c t ky u s) (hl : s.2.2.2.1.length ≤ s.2.1) : ∃ u', gm_cl' X (D + 9) 32 [.ref 84, .int (nI p), .int (nI (q + 1))] (gt_h u) = some (some (.int (if (pG B c ky f 5 p (q + 1) (nxS B c s)).1 = true then nI 1 else nI 0)), gt_h u') ∧ rC B c t ky u' (if (pG B c ky f 5 p (q + 1) (nxS B c s)).1 = true then emS 20033 (pG B c ky f 5 p (q + 1) (nxS B c s)).2 else (pG B c ky f 5 p (q + 1) (nxS B c s)).2) ∧ fC t u u' := by
  obtain ⟨u1, e1, R1, F1⟩ := rC_step (X := X) (d := D + 6) hc hb ok (by omega) h
  obtain ⟨n1, n2⟩ := okT_nx (B := B) (c := c) (s := s) ok.2.2.1
  have n3 := ok.2.2.2.1 h3
  have hl1 : (nxS B c s).2.2.2.1.length + 1 ≤ (nxS B c s).2.1 := by
    have : (nxS B c s).2.2.2.1 = s.2.2.2.1 := rfl
    rw [this]; omega
  obtain ⟨u2, e2, R2, F2⟩ := hP p (q + 1) (nxS B c s) u1 (D + 8) hp (by omega) (by omega) (by omega) n1 R1 (by omega)
  obtain ⟨q1, q2, q3⟩ := pG_ok hk f 5 p (q + 1) (nxS B c s) n1
  rw [cl_32]
  generalize pG B c ky f 5 p (q + 1) (nxS B c s) = r at *
  have f1 := R2.2.2.2.2.2.1
  by_cases hr : r.1 = true
  · obtain ⟨r0, l2, r1, r2, r3, r4⟩ := q3 hr
    have hl2 : r.2.2.2.2.1.length + 1 ≤ r.2.2.1 := by
      rw [r1, List.length_append]
      omega
    obtain ⟨u3, e3, R3, F3⟩ := rC_em (X := X) (d := D + 8) (x := 20033) ht R2 (ok_len r0 hc hl2)
    refine ⟨u3, ?_, by rw [if_pos hr]; exact R3, fC_trans F1 (fC_trans F2 F3)⟩
    rw [if_pos hr] at e2 ⊢
    simp -implicitDefEqProofs (disch := first | (with_reducible first | exact rt_32 | exact na_43 | exact k_82.trans mc_43.symm | exact na_31 | exact k_84.trans mc_31.symm | exact na_53 | exact k_1.trans mc_53.symm | exact c1_i | exact c1_r | exact of_eq_false nf_zGC | exact of_eq_false nf_zBA | exact of_eq_false nf_zDA | exact of_eq_false nf_zCA | exact of_eq_false nf_zBC | exact of_eq_false nf_zDC | exact of_eq_false nf_zSC | exact of_eq_false nf_zSP | exact of_eq_false nf_zLC | exact of_eq_false nf_zLB | exact of_eq_false nf_zLS | exact of_eq_false nf_zLP | exact of_eq_false nf_zTR) | omega | exact Nat.le_of_ble_eq_true rfl | ((with_reducible refine nI_ne0 ?_ ?_) <;> omega)) only [bk_32_0, tn_0, bl_al0, bf_84_0, bl_iv1, bl_il1, bl_il2, bl_iv3, bl_if_ne, bl_c0, bl_ri, bl_rz, bl_rz1, bl_rz0, bk_32_18, tn_18, bf_84_1, bf_84_2, bl_c20033, bl_c1, Option.bind_some, Option.bind_none, Option.toList_some, Option.toList_none, List.cons_append, List.nil_append, not_false_eq_true, not_true_eq_false, nI_10, nI_00, bI_0, bI_n0, if_true, if_false, true_and, and_true, and_false, false_and, Classical.not_not, ↓reduceIte, eq_self, Nat.reduceAdd, Nat.reduceMul, bl_nil, z_lt, z_le, z_gt, z_ge, nI_add, nI_mul, nI_sub, L_lt, L_le, L_eq, L_e0, N_ltT, N_ltF, N_leT, N_leF, N_eqT, N_eqF, gs_hit, gs_miss, e1, e2, e3, f1]
  · refine ⟨u2, ?_, by rw [if_neg hr]; exact R2, fC_trans F1 F2⟩
    rw [if_neg hr] at e2 ⊢
    simp -implicitDefEqProofs (disch := first | (with_reducible first | exact rt_32 | exact na_43 | exact k_82.trans mc_43.symm | exact na_31 | exact k_84.trans mc_31.symm | exact na_53 | exact k_1.trans mc_53.symm | exact c1_i | exact c1_r | exact of_eq_false nf_zGC | exact of_eq_false nf_zBA | exact of_eq_false nf_zDA | exact of_eq_false nf_zCA | exact of_eq_false nf_zBC | exact of_eq_false nf_zDC | exact of_eq_false nf_zSC | exact of_eq_false nf_zSP | exact of_eq_false nf_zLC | exact of_eq_false nf_zLB | exact of_eq_false nf_zLS | exact of_eq_false nf_zLP | exact of_eq_false nf_zTR) | omega | exact Nat.le_of_ble_eq_true rfl | ((with_reducible refine nI_ne0 ?_ ?_) <;> omega)) only [bk_32_0, tn_0, bl_al0, bf_84_0, bl_iv1, bl_il1, bl_il2, bl_iv3, bl_if_ne, bl_c0, bl_ri, bl_rz, bl_rz1, bl_rz0, bk_32_18, tn_18, bf_84_1, bf_84_2, bl_c20033, bl_c1, Option.bind_some, Option.bind_none, Option.toList_some, Option.toList_none, List.cons_append, List.nil_append, not_false_eq_true, not_true_eq_false, nI_10, nI_00, bI_0, bI_n0, if_true, if_false, true_and, and_true, and_false, false_and, Classical.not_not, ↓reduceIte, eq_self, Nat.reduceAdd, Nat.reduceMul, bl_nil, z_lt, z_le, z_gt, z_ge, nI_add, nI_mul, nI_sub, L_lt, L_le, L_eq, L_e0, N_ltT, N_ltF, N_leT, N_leF, N_eqT, N_eqF, gs_hit, gs_miss, e1, e2, f1]
theorem c_par {p q D : Nat} (hk : ky < 3) (hc : c ≤ 96) (ht : t < 15) (hb : ∀ k, B k < 256) (hL : lvR X B c t ky f) (hp : p ≤ 7) (hq : q ≤ 8) (hf : 7 * ((8 - p) + (8 - q)) + 1 ≤ f + 1) (hD : 9 * (8 - p) + 2 * (8 - q) + 10 ≤ D + 10) (ok : okT B c s) (h3 : s.1 = 3) (h : rC B c t ky u s) (hl : s.2.2.2.1.length ≤ s.2.1) : ∃ u', gm_cl' X (D + 9) 33 [.ref 84, .int (nI (p + 1)), .int (nI q)] (gt_h u) = some (some (.int (if (pG B c ky f 0 (p + 1) q (nxS B c s)).1 = true then (if sgS B (pG B c ky f 0 (p + 1) q (nxS B c s)).2 = 41 then nI 1 else nI 0) else nI 0)), gt_h u') ∧ rC B c t ky u' (if (pG B c ky f 0 (p + 1) q (nxS B c s)).1 = true then (if sgS B (pG B c ky f 0 (p + 1) q (nxS B c s)).2 = 41 then nxS B c (pG B c ky f 0 (p + 1) q (nxS B c s)).2 else (pG B c ky f 0 (p + 1) q (nxS B c s)).2) else (pG B c ky f 0 (p + 1) q (nxS B c s)).2) ∧ fC t u u' := by
  obtain ⟨u1, e1, R1, F1⟩ := rC_step (X := X) (d := D + 6) hc hb ok (by omega) h
  obtain ⟨n1, n2⟩ := okT_nx (B := B) (c := c) (s := s) ok.2.2.1
  have n3 := ok.2.2.2.1 h3
  have hl1 : (nxS B c s).2.2.2.1.length ≤ (nxS B c s).2.1 := by
    have : (nxS B c s).2.2.2.1 = s.2.2.2.1 := rfl
    rw [this]; omega
  obtain ⟨u2, e2, R2, F2⟩ := hL 0 (p + 1) q (nxS B c s) u1 (D + 8) (by omega) (by omega) hq (by omega) (by omega) n1 R1 hl1
  obtain ⟨q1, q2, q3⟩ := pG_ok hk f 0 (p + 1) q (nxS B c s) n1
  rw [cl_33]
  generalize pG B c ky f 0 (p + 1) q (nxS B c s) = r at *
  have e4 := rC_sign (X := X) (d := D + 8) hc q1 R2
  have e5 := sgI_eq (B := B) (s := r.2) (g := 41) (by omega) (by omega) hb
  by_cases hr : r.1 = true
  · by_cases hg : sgS B r.2 = 41
    · have h3' := sg_3 (B := B) (s := r.2) (by omega)
      obtain ⟨u3, e3, R3, F3⟩ := rC_step (X := X) (d := D + 6) hc hb q1 (by omega) R2
      refine ⟨u3, ?_, by rw [if_pos hr, if_pos hg]; exact R3, fC_trans F1 (fC_trans F2 F3)⟩
      rw [if_pos hr] at e2 ⊢
      rw [if_pos hg]
      simp -implicitDefEqProofs (disch := first | (with_reducible first | exact rt_33 | exact na_43 | exact k_82.trans mc_43.symm | exact na_29 | exact k_84.trans mc_29.symm | exact na_46 | exact k_82.trans mc_46.symm | exact c1_i | exact c1_r | exact of_eq_false nf_zGC | exact of_eq_false nf_zBA | exact of_eq_false nf_zDA | exact of_eq_false nf_zCA | exact of_eq_false nf_zBC | exact of_eq_false nf_zDC | exact of_eq_false nf_zSC | exact of_eq_false nf_zSP | exact of_eq_false nf_zLC | exact of_eq_false nf_zLB | exact of_eq_false nf_zLS | exact of_eq_false nf_zLP | exact of_eq_false nf_zTR) | omega | exact Nat.le_of_ble_eq_true rfl | ((with_reducible refine nI_ne0 ?_ ?_) <;> omega)) only [bk_33_0, tn_0, bl_al0, bf_84_0, bl_iv1, bl_c0, bl_il1, bl_il2, bl_iv4, bl_if_eq, bl_c41, bl_ic_eq, bk_33_29, tn_29, bl_ri, bl_rz, bl_rz1, bl_rz0, bk_33_31, tn_31, bl_c1, Option.bind_some, Option.bind_none, Option.toList_some, Option.toList_none, List.cons_append, List.nil_append, not_false_eq_true, not_true_eq_false, nI_10, nI_00, bI_0, bI_n0, if_true, if_false, true_and, and_true, and_false, false_and, Classical.not_not, ↓reduceIte, eq_self, Nat.reduceAdd, Nat.reduceMul, bl_nil, z_lt, z_le, z_gt, z_ge, nI_add, nI_mul, nI_sub, L_lt, L_le, L_eq, L_e0, N_ltT, N_ltF, N_leT, N_leF, N_eqT, N_eqF, gs_hit, gs_miss, e1, e2, e3, e4, e5, hg]
    · refine ⟨u2, ?_, by rw [if_pos hr, if_neg hg]; exact R2, fC_trans F1 F2⟩
      rw [if_pos hr] at e2 ⊢
      rw [if_neg hg]
      simp -implicitDefEqProofs (disch := first | (with_reducible first | exact rt_33 | exact na_43 | exact k_82.trans mc_43.symm | exact na_29 | exact k_84.trans mc_29.symm | exact na_46 | exact k_82.trans mc_46.symm | exact c1_i | exact c1_r | exact of_eq_false nf_zGC | exact of_eq_false nf_zBA | exact of_eq_false nf_zDA | exact of_eq_false nf_zCA | exact of_eq_false nf_zBC | exact of_eq_false nf_zDC | exact of_eq_false nf_zSC | exact of_eq_false nf_zSP | exact of_eq_false nf_zLC | exact of_eq_false nf_zLB | exact of_eq_false nf_zLS | exact of_eq_false nf_zLP | exact of_eq_false nf_zTR) | omega | exact Nat.le_of_ble_eq_true rfl | ((with_reducible refine nI_ne0 ?_ ?_) <;> omega)) only [bk_33_0, tn_0, bl_al0, bf_84_0, bl_iv1, bl_c0, bl_il1, bl_il2, bl_iv4, bl_if_eq, bl_c41, bl_ic_eq, bk_33_29, tn_29, bl_ri, bl_rz, bl_rz1, bl_rz0, bk_33_31, tn_31, bl_c1, Option.bind_some, Option.bind_none, Option.toList_some, Option.toList_none, List.cons_append, List.nil_append, not_false_eq_true, not_true_eq_false, nI_10, nI_00, bI_0, bI_n0, if_true, if_false, true_and, and_true, and_false, false_and, Classical.not_not, ↓reduceIte, eq_self, Nat.reduceAdd, Nat.reduceMul, bl_nil, z_lt, z_le, z_gt, z_ge, nI_add, nI_mul, nI_sub, L_lt, L_le, L_eq, L_e0, N_ltT, N_ltF, N_leT, N_leF, N_eqT, N_eqF, gs_hit, gs_miss, e1, e2, e4, e5, hg]
  · refine ⟨u2, ?_, by rw [if_neg hr]; exact R2, fC_trans F1 F2⟩
    rw [if_neg hr] at e2 ⊢
    simp -implicitDefEqProofs (disch := first | (with_reducible first | exact rt_33 | exact na_43 | exact k_82.trans mc_43.symm | exact na_29 | exact k_84.trans mc_29.symm | exact na_46 | exact k_82.trans mc_46.symm | exact c1_i | exact c1_r | exact of_eq_false nf_zGC | exact of_eq_false nf_zBA | exact of_eq_false nf_zDA | exact of_eq_false nf_zCA | exact of_eq_false nf_zBC | exact of_eq_false nf_zDC | exact of_eq_false nf_zSC | exact of_eq_false nf_zSP | exact of_eq_false nf_zLC | exact of_eq_false nf_zLB | exact of_eq_false nf_zLS | exact of_eq_false nf_zLP | exact of_eq_false nf_zTR) | omega | exact Nat.le_of_ble_eq_true rfl | ((with_reducible refine nI_ne0 ?_ ?_) <;> omega)) only [bk_33_0, tn_0, bl_al0, bf_84_0, bl_iv1, bl_c0, bl_il1, bl_il2, bl_iv4, bl_if_eq, bl_c41, bl_ic_eq, bk_33_29, tn_29, bl_ri, bl_rz, bl_rz1, bl_rz0, bk_33_31, tn_31, bl_c1, Option.bind_some, Option.bind_none, Option.toList_some, Option.toList_none, List.cons_append, List.nil_append, not_false_eq_true, not_true_eq_false, nI_10, nI_00, bI_0, bI_n0, if_true, if_false, true_and, and_true, and_false, false_and, Classical.not_not, ↓reduceIte, eq_self, Nat.reduceAdd, Nat.reduceMul, bl_nil, z_lt, z_le, z_gt, z_ge, nI_add, nI_mul, nI_sub, L_lt, L_le, L_eq, L_e0, N_ltT, N_ltF, N_leT, N_leF, N_eqT, N_eqF, gs_hit, gs_miss, e1, e2, e4, e5]
theorem c_pcS (hk : ky < 3) (hc : c ≤ 96) (ht : t < 15) (hb : ∀ k, B k < 256) (hP : pcR X B c t ky f) (hL : lvR X B c t ky f) : pcR X B c t ky (f + 1) := by
  intro p q s u D hp hq hf hD ok h hl
  obtain ⟨D, rfl⟩ : ∃ D', D = D' + 10 := ⟨D - 10, by omega⟩
  have es := rC_sign (X := X) (d := D + 9) hc ok h
  have e33 := sgI_eq (B := B) (s := s) (g := 33) (by omega) (by omega) hb
  have e40 := sgI_eq (B := B) (s := s) (g := 40) (by omega) (by omega) hb
  rw [pG, if_pos (Nat.le_refl 5), cl_31]
  by_cases g33 : sgS B s = 33
  · rw [if_pos g33]
    have h3 := sg_3 (B := B) (s := s) (by omega)
    by_cases hq8 : q < 8
    · rw [if_pos hq8]
      obtain ⟨u1, e1, R1, F1⟩ := c_not (X := X) (D := D) (p := p) (q := q) hk hc ht hb hP hp (by omega) hf hD ok h3 h hl
      generalize pG B c ky f 5 p (q + 1) (nxS B c s) = r at *
      refine ⟨u1, ?_, ?_, F1⟩
      · by_cases hr : r.1 = true
        · rw [if_pos hr] at e1
          rw [if_pos hr, if_pos rfl]
          simp -implicitDefEqProofs (disch := first | (with_reducible first | exact rt_31 | exact na_46 | exact k_82.trans mc_46.symm | exact na_32 | exact k_84.trans mc_32.symm | exact na_33 | exact k_84.trans mc_33.symm | exact na_47 | exact k_82.trans mc_47.symm | exact na_48 | exact k_82.trans mc_48.symm | exact na_52 | exact k_1.trans mc_52.symm | exact na_43 | exact k_82.trans mc_43.symm | exact c1_i | exact c1_r | exact of_eq_false nf_zGC | exact of_eq_false nf_zBA | exact of_eq_false nf_zDA | exact of_eq_false nf_zCA | exact of_eq_false nf_zBC | exact of_eq_false nf_zDC | exact of_eq_false nf_zSC | exact of_eq_false nf_zSP | exact of_eq_false nf_zLC | exact of_eq_false nf_zLB | exact of_eq_false nf_zLS | exact of_eq_false nf_zLP | exact of_eq_false nf_zTR) | omega | exact Nat.le_of_ble_eq_true rfl | ((with_reducible refine nI_ne0 ?_ ?_) <;> omega)) only [bk_31_0, tn_0, bl_al0, bf_84_0, bl_iv1, bl_c33, bl_ic_ne, bl_il2, bl_c8, bl_ic_ge, bl_il1, bl_c1, bl_iadd, bl_iv3, bl_if_eq, bl_goto, bk_31_33, tn_33, bl_c0, bk_31_34, tn_34, bl_ri, bl_rz, bl_rz1, bl_rz0, bk_31_35, tn_35, bl_c40, bk_31_68, tn_68, bk_31_69, tn_69, bk_31_70, tn_70, bl_is3, bf_84_3, bl_iv2, bl_is4, bl_il3, bl_cm1000000005, bl_il4, bk_31_106, tn_106, bf_84_1, bf_84_2, bl_ic_eq, bk_31_124, tn_124, bl_c10000, bk_31_130, tn_130, Option.bind_some, Option.bind_none, Option.toList_some, Option.toList_none, List.cons_append, List.nil_append, not_false_eq_true, not_true_eq_false, nI_10, nI_00, bI_0, bI_n0, if_true, if_false, true_and, and_true, and_false, false_and, Classical.not_not, ↓reduceIte, eq_self, Nat.reduceAdd, Nat.reduceMul, bl_nil, z_lt, z_le, z_gt, z_ge, nI_add, nI_mul, nI_sub, L_lt, L_le, L_eq, L_e0, N_ltT, N_ltF, N_leT, N_leF, N_eqT, N_eqF, gs_hit, gs_miss, es, e33, g33, e1]
        · rw [if_neg hr] at e1
          rw [if_neg hr, if_neg (show ¬ (false = true) by decide)]
          simp -implicitDefEqProofs (disch := first | (with_reducible first | exact rt_31 | exact na_46 | exact k_82.trans mc_46.symm | exact na_32 | exact k_84.trans mc_32.symm | exact na_33 | exact k_84.trans mc_33.symm | exact na_47 | exact k_82.trans mc_47.symm | exact na_48 | exact k_82.trans mc_48.symm | exact na_52 | exact k_1.trans mc_52.symm | exact na_43 | exact k_82.trans mc_43.symm | exact c1_i | exact c1_r | exact of_eq_false nf_zGC | exact of_eq_false nf_zBA | exact of_eq_false nf_zDA | exact of_eq_false nf_zCA | exact of_eq_false nf_zBC | exact of_eq_false nf_zDC | exact of_eq_false nf_zSC | exact of_eq_false nf_zSP | exact of_eq_false nf_zLC | exact of_eq_false nf_zLB | exact of_eq_false nf_zLS | exact of_eq_false nf_zLP | exact of_eq_false nf_zTR) | omega | exact Nat.le_of_ble_eq_true rfl | ((with_reducible refine nI_ne0 ?_ ?_) <;> omega)) only [bk_31_0, tn_0, bl_al0, bf_84_0, bl_iv1, bl_c33, bl_ic_ne, bl_il2, bl_c8, bl_ic_ge, bl_il1, bl_c1, bl_iadd, bl_iv3, bl_if_eq, bl_goto, bk_31_33, tn_33, bl_c0, bk_31_34, tn_34, bl_ri, bl_rz, bl_rz1, bl_rz0, bk_31_35, tn_35, bl_c40, bk_31_68, tn_68, bk_31_69, tn_69, bk_31_70, tn_70, bl_is3, bf_84_3, bl_iv2, bl_is4, bl_il3, bl_cm1000000005, bl_il4, bk_31_106, tn_106, bf_84_1, bf_84_2, bl_ic_eq, bk_31_124, tn_124, bl_c10000, bk_31_130, tn_130, Option.bind_some, Option.bind_none, Option.toList_some, Option.toList_none, List.cons_append, List.nil_append, not_false_eq_true, not_true_eq_false, nI_10, nI_00, bI_0, bI_n0, if_true, if_false, true_and, and_true, and_false, false_and, Classical.not_not, ↓reduceIte, eq_self, Nat.reduceAdd, Nat.reduceMul, bl_nil, z_lt, z_le, z_gt, z_ge, nI_add, nI_mul, nI_sub, L_lt, L_le, L_eq, L_e0, N_ltT, N_ltF, N_leT, N_leF, N_eqT, N_eqF, gs_hit, gs_miss, es, e33, g33, e1]
      · by_cases hr : r.1 = true
        · rw [if_pos hr] at R1 ⊢
          exact R1
        · rw [if_neg hr] at R1 ⊢
          exact R1
    · rw [if_neg hq8, if_neg (show ¬ (false = true) by decide)]
      refine ⟨u, ?_, h, fC_refl⟩
      simp -implicitDefEqProofs (disch := first | (with_reducible first | exact rt_31 | exact na_46 | exact k_82.trans mc_46.symm | exact na_32 | exact k_84.trans mc_32.symm | exact na_33 | exact k_84.trans mc_33.symm | exact na_47 | exact k_82.trans mc_47.symm | exact na_48 | exact k_82.trans mc_48.symm | exact na_52 | exact k_1.trans mc_52.symm | exact na_43 | exact k_82.trans mc_43.symm | exact c1_i | exact c1_r | exact of_eq_false nf_zGC | exact of_eq_false nf_zBA | exact of_eq_false nf_zDA | exact of_eq_false nf_zCA | exact of_eq_false nf_zBC | exact of_eq_false nf_zDC | exact of_eq_false nf_zSC | exact of_eq_false nf_zSP | exact of_eq_false nf_zLC | exact of_eq_false nf_zLB | exact of_eq_false nf_zLS | exact of_eq_false nf_zLP | exact of_eq_false nf_zTR) | omega | exact Nat.le_of_ble_eq_true rfl | ((with_reducible refine nI_ne0 ?_ ?_) <;> omega)) only [bk_31_0, tn_0, bl_al0, bf_84_0, bl_iv1, bl_c33, bl_ic_ne, bl_il2, bl_c8, bl_ic_ge, bl_il1, bl_c1, bl_iadd, bl_iv3, bl_if_eq, bl_goto, bk_31_33, tn_33, bl_c0, bk_31_34, tn_34, bl_ri, bl_rz, bl_rz1, bl_rz0, bk_31_35, tn_35, bl_c40, bk_31_68, tn_68, bk_31_69, tn_69, bk_31_70, tn_70, bl_is3, bf_84_3, bl_iv2, bl_is4, bl_il3, bl_cm1000000005, bl_il4, bk_31_106, tn_106, bf_84_1, bf_84_2, bl_ic_eq, bk_31_124, tn_124, bl_c10000, bk_31_130, tn_130, Option.bind_some, Option.bind_none, Option.toList_some, Option.toList_none, List.cons_append, List.nil_append, not_false_eq_true, not_true_eq_false, nI_10, nI_00, bI_0, bI_n0, if_true, if_false, true_and, and_true, and_false, false_and, Classical.not_not, ↓reduceIte, eq_self, Nat.reduceAdd, Nat.reduceMul, bl_nil, z_lt, z_le, z_gt, z_ge, nI_add, nI_mul, nI_sub, L_lt, L_le, L_eq, L_e0, N_ltT, N_ltF, N_leT, N_leF, N_eqT, N_eqF, gs_hit, gs_miss, es, e33, g33]
  · rw [if_neg g33]
    by_cases g40 : sgS B s = 40
    · rw [if_pos g40]
      have h3 := sg_3 (B := B) (s := s) (by omega)
      by_cases hp8 : p < 8
      · rw [if_pos hp8]
        obtain ⟨u1, e1, R1, F1⟩ := c_par (X := X) (D := D) (p := p) (q := q) hk hc ht hb hL (by omega) hq hf hD ok h3 h hl
        generalize pG B c ky f 0 (p + 1) q (nxS B c s) = r at *
        by_cases hr : r.1 = true
        · rw [if_pos hr] at e1 R1
          rw [if_pos hr]
          by_cases hg : sgS B r.2 = 41
          · rw [if_pos hg] at e1 R1
            rw [if_pos hg, if_pos rfl]
            refine ⟨u1, ?_, R1, F1⟩
            simp -implicitDefEqProofs (disch := first | (with_reducible first | exact rt_31 | exact na_46 | exact k_82.trans mc_46.symm | exact na_32 | exact k_84.trans mc_32.symm | exact na_33 | exact k_84.trans mc_33.symm | exact na_47 | exact k_82.trans mc_47.symm | exact na_48 | exact k_82.trans mc_48.symm | exact na_52 | exact k_1.trans mc_52.symm | exact na_43 | exact k_82.trans mc_43.symm | exact c1_i | exact c1_r | exact of_eq_false nf_zGC | exact of_eq_false nf_zBA | exact of_eq_false nf_zDA | exact of_eq_false nf_zCA | exact of_eq_false nf_zBC | exact of_eq_false nf_zDC | exact of_eq_false nf_zSC | exact of_eq_false nf_zSP | exact of_eq_false nf_zLC | exact of_eq_false nf_zLB | exact of_eq_false nf_zLS | exact of_eq_false nf_zLP | exact of_eq_false nf_zTR) | omega | exact Nat.le_of_ble_eq_true rfl | ((with_reducible refine nI_ne0 ?_ ?_) <;> omega)) only [bk_31_0, tn_0, bl_al0, bf_84_0, bl_iv1, bl_c33, bl_ic_ne, bl_il2, bl_c8, bl_ic_ge, bl_il1, bl_c1, bl_iadd, bl_iv3, bl_if_eq, bl_goto, bk_31_33, tn_33, bl_c0, bk_31_34, tn_34, bl_ri, bl_rz, bl_rz1, bl_rz0, bk_31_35, tn_35, bl_c40, bk_31_68, tn_68, bk_31_69, tn_69, bk_31_70, tn_70, bl_is3, bf_84_3, bl_iv2, bl_is4, bl_il3, bl_cm1000000005, bl_il4, bk_31_106, tn_106, bf_84_1, bf_84_2, bl_ic_eq, bk_31_124, tn_124, bl_c10000, bk_31_130, tn_130, Option.bind_some, Option.bind_none, Option.toList_some, Option.toList_none, List.cons_append, List.nil_append, not_false_eq_true, not_true_eq_false, nI_10, nI_00, bI_0, bI_n0, if_true, if_false, true_and, and_true, and_false, false_and, Classical.not_not, ↓reduceIte, eq_self, Nat.reduceAdd, Nat.reduceMul, bl_nil, z_lt, z_le, z_gt, z_ge, nI_add, nI_mul, nI_sub, L_lt, L_le, L_eq, L_e0, N_ltT, N_ltF, N_leT, N_leF, N_eqT, N_eqF, gs_hit, gs_miss, es, e33, g33, e40, g40, e1]
          · rw [if_neg hg] at e1 R1
            rw [if_neg hg, if_neg (show ¬ (false = true) by decide)]
            refine ⟨u1, ?_, R1, F1⟩
            simp -implicitDefEqProofs (disch := first | (with_reducible first | exact rt_31 | exact na_46 | exact k_82.trans mc_46.symm | exact na_32 | exact k_84.trans mc_32.symm | exact na_33 | exact k_84.trans mc_33.symm | exact na_47 | exact k_82.trans mc_47.symm | exact na_48 | exact k_82.trans mc_48.symm | exact na_52 | exact k_1.trans mc_52.symm | exact na_43 | exact k_82.trans mc_43.symm | exact c1_i | exact c1_r | exact of_eq_false nf_zGC | exact of_eq_false nf_zBA | exact of_eq_false nf_zDA | exact of_eq_false nf_zCA | exact of_eq_false nf_zBC | exact of_eq_false nf_zDC | exact of_eq_false nf_zSC | exact of_eq_false nf_zSP | exact of_eq_false nf_zLC | exact of_eq_false nf_zLB | exact of_eq_false nf_zLS | exact of_eq_false nf_zLP | exact of_eq_false nf_zTR) | omega | exact Nat.le_of_ble_eq_true rfl | ((with_reducible refine nI_ne0 ?_ ?_) <;> omega)) only [bk_31_0, tn_0, bl_al0, bf_84_0, bl_iv1, bl_c33, bl_ic_ne, bl_il2, bl_c8, bl_ic_ge, bl_il1, bl_c1, bl_iadd, bl_iv3, bl_if_eq, bl_goto, bk_31_33, tn_33, bl_c0, bk_31_34, tn_34, bl_ri, bl_rz, bl_rz1, bl_rz0, bk_31_35, tn_35, bl_c40, bk_31_68, tn_68, bk_31_69, tn_69, bk_31_70, tn_70, bl_is3, bf_84_3, bl_iv2, bl_is4, bl_il3, bl_cm1000000005, bl_il4, bk_31_106, tn_106, bf_84_1, bf_84_2, bl_ic_eq, bk_31_124, tn_124, bl_c10000, bk_31_130, tn_130, Option.bind_some, Option.bind_none, Option.toList_some, Option.toList_none, List.cons_append, List.nil_append, not_false_eq_true, not_true_eq_false, nI_10, nI_00, bI_0, bI_n0, if_true, if_false, true_and, and_true, and_false, false_and, Classical.not_not, ↓reduceIte, eq_self, Nat.reduceAdd, Nat.reduceMul, bl_nil, z_lt, z_le, z_gt, z_ge, nI_add, nI_mul, nI_sub, L_lt, L_le, L_eq, L_e0, N_ltT, N_ltF, N_leT, N_leF, N_eqT, N_eqF, gs_hit, gs_miss, es, e33, g33, e40, g40, e1]
        · rw [if_neg hr] at e1 R1
          rw [if_neg hr, if_neg (show ¬ (false = true) by decide)]
          refine ⟨u1, ?_, R1, F1⟩
          simp -implicitDefEqProofs (disch := first | (with_reducible first | exact rt_31 | exact na_46 | exact k_82.trans mc_46.symm | exact na_32 | exact k_84.trans mc_32.symm | exact na_33 | exact k_84.trans mc_33.symm | exact na_47 | exact k_82.trans mc_47.symm | exact na_48 | exact k_82.trans mc_48.symm | exact na_52 | exact k_1.trans mc_52.symm | exact na_43 | exact k_82.trans mc_43.symm | exact c1_i | exact c1_r | exact of_eq_false nf_zGC | exact of_eq_false nf_zBA | exact of_eq_false nf_zDA | exact of_eq_false nf_zCA | exact of_eq_false nf_zBC | exact of_eq_false nf_zDC | exact of_eq_false nf_zSC | exact of_eq_false nf_zSP | exact of_eq_false nf_zLC | exact of_eq_false nf_zLB | exact of_eq_false nf_zLS | exact of_eq_false nf_zLP | exact of_eq_false nf_zTR) | omega | exact Nat.le_of_ble_eq_true rfl | ((with_reducible refine nI_ne0 ?_ ?_) <;> omega)) only [bk_31_0, tn_0, bl_al0, bf_84_0, bl_iv1, bl_c33, bl_ic_ne, bl_il2, bl_c8, bl_ic_ge, bl_il1, bl_c1, bl_iadd, bl_iv3, bl_if_eq, bl_goto, bk_31_33, tn_33, bl_c0, bk_31_34, tn_34, bl_ri, bl_rz, bl_rz1, bl_rz0, bk_31_35, tn_35, bl_c40, bk_31_68, tn_68, bk_31_69, tn_69, bk_31_70, tn_70, bl_is3, bf_84_3, bl_iv2, bl_is4, bl_il3, bl_cm1000000005, bl_il4, bk_31_106, tn_106, bf_84_1, bf_84_2, bl_ic_eq, bk_31_124, tn_124, bl_c10000, bk_31_130, tn_130, Option.bind_some, Option.bind_none, Option.toList_some, Option.toList_none, List.cons_append, List.nil_append, not_false_eq_true, not_true_eq_false, nI_10, nI_00, bI_0, bI_n0, if_true, if_false, true_and, and_true, and_false, false_and, Classical.not_not, ↓reduceIte, eq_self, Nat.reduceAdd, Nat.reduceMul, bl_nil, z_lt, z_le, z_gt, z_ge, nI_add, nI_mul, nI_sub, L_lt, L_le, L_eq, L_e0, N_ltT, N_ltF, N_leT, N_leF, N_eqT, N_eqF, gs_hit, gs_miss, es, e33, g33, e40, g40, e1]
      · rw [if_neg hp8, if_neg (show ¬ (false = true) by decide)]
        refine ⟨u, ?_, h, fC_refl⟩
        simp -implicitDefEqProofs (disch := first | (with_reducible first | exact rt_31 | exact na_46 | exact k_82.trans mc_46.symm | exact na_32 | exact k_84.trans mc_32.symm | exact na_33 | exact k_84.trans mc_33.symm | exact na_47 | exact k_82.trans mc_47.symm | exact na_48 | exact k_82.trans mc_48.symm | exact na_52 | exact k_1.trans mc_52.symm | exact na_43 | exact k_82.trans mc_43.symm | exact c1_i | exact c1_r | exact of_eq_false nf_zGC | exact of_eq_false nf_zBA | exact of_eq_false nf_zDA | exact of_eq_false nf_zCA | exact of_eq_false nf_zBC | exact of_eq_false nf_zDC | exact of_eq_false nf_zSC | exact of_eq_false nf_zSP | exact of_eq_false nf_zLC | exact of_eq_false nf_zLB | exact of_eq_false nf_zLS | exact of_eq_false nf_zLP | exact of_eq_false nf_zTR) | omega | exact Nat.le_of_ble_eq_true rfl | ((with_reducible refine nI_ne0 ?_ ?_) <;> omega)) only [bk_31_0, tn_0, bl_al0, bf_84_0, bl_iv1, bl_c33, bl_ic_ne, bl_il2, bl_c8, bl_ic_ge, bl_il1, bl_c1, bl_iadd, bl_iv3, bl_if_eq, bl_goto, bk_31_33, tn_33, bl_c0, bk_31_34, tn_34, bl_ri, bl_rz, bl_rz1, bl_rz0, bk_31_35, tn_35, bl_c40, bk_31_68, tn_68, bk_31_69, tn_69, bk_31_70, tn_70, bl_is3, bf_84_3, bl_iv2, bl_is4, bl_il3, bl_cm1000000005, bl_il4, bk_31_106, tn_106, bf_84_1, bf_84_2, bl_ic_eq, bk_31_124, tn_124, bl_c10000, bk_31_130, tn_130, Option.bind_some, Option.bind_none, Option.toList_some, Option.toList_none, List.cons_append, List.nil_append, not_false_eq_true, not_true_eq_false, nI_10, nI_00, bI_0, bI_n0, if_true, if_false, true_and, and_true, and_false, false_and, Classical.not_not, ↓reduceIte, eq_self, Nat.reduceAdd, Nat.reduceMul, bl_nil, z_lt, z_le, z_gt, z_ge, nI_add, nI_mul, nI_sub, L_lt, L_le, L_eq, L_e0, N_ltT, N_ltF, N_leT, N_leF, N_eqT, N_eqF, gs_hit, gs_miss, es, e33, g33, e40, g40]
    · rw [if_neg g40]
      obtain ⟨h0, h1, h2, h4, hB, h9, h91, hz, hr, hv⟩ := id h
      obtain ⟨o1, o2, o3, o4, o5, o6⟩ := id ok
      have en := c_number (X := X) (d := D + 8) hc h0 h1 o1 h2 h4 o2 o3 hB o6
      have em := c_name (X := X) (d := D + 5) (ky := ky) hk hc h0 h1 o1 h2 h4 o2 o3 hB hb
      have ncl : (nI (2 * ky + 2)).toNatClampNeg = 2 * ky + 2 := nI_clamp (by omega)
      by_cases hf9 : lfN B ky s = 20000
      · rw [if_pos hf9, if_neg (show ¬ (false = true) by decide)]
        refine ⟨u, ?_, h, fC_refl⟩
        have x1 : ¬ (s.1 = 2 ∧ s.2.2.1 ≤ s.2.1 + 4) := by
          intro y
          unfold lfN at hf9
          rw [if_pos y] at hf9
          have hv := vl_le (B := B) (k := s.2.2.1 - s.2.1) (p := s.2.1) (by omega) (fun j g1 g2 => o6 y.1 j g1 (by omega))
          omega
        rw [if_neg x1] at en
        have x2 : (if s.1 = 1 ∧ s.2.2.1 = s.2.1 + 1 then (if idN ky (B s.2.1) < 3 then nI (idN ky (B s.2.1)) else (-1000000005 : Int32)) else -1000000005) = -1000000005 := by
          unfold lfN at hf9
          rw [if_neg x1] at hf9
          split
          · rename_i y
            rw [if_pos y] at hf9
            split
            · rename_i z
              rw [if_pos z] at hf9
              omega
            · rfl
          · rfl
        rw [x2] at em
        simp -implicitDefEqProofs (disch := first | (with_reducible first | exact rt_31 | exact na_46 | exact k_82.trans mc_46.symm | exact na_32 | exact k_84.trans mc_32.symm | exact na_33 | exact k_84.trans mc_33.symm | exact na_47 | exact k_82.trans mc_47.symm | exact na_48 | exact k_82.trans mc_48.symm | exact na_52 | exact k_1.trans mc_52.symm | exact na_43 | exact k_82.trans mc_43.symm | exact c1_i | exact c1_r | exact of_eq_false nf_zGC | exact of_eq_false nf_zBA | exact of_eq_false nf_zDA | exact of_eq_false nf_zCA | exact of_eq_false nf_zBC | exact of_eq_false nf_zDC | exact of_eq_false nf_zSC | exact of_eq_false nf_zSP | exact of_eq_false nf_zLC | exact of_eq_false nf_zLB | exact of_eq_false nf_zLS | exact of_eq_false nf_zLP | exact of_eq_false nf_zTR) | omega | exact Nat.le_of_ble_eq_true rfl | ((with_reducible refine nI_ne0 ?_ ?_) <;> omega)) only [bk_31_0, tn_0, bl_al0, bf_84_0, bl_iv1, bl_c33, bl_ic_ne, bl_il2, bl_c8, bl_ic_ge, bl_il1, bl_c1, bl_iadd, bl_iv3, bl_if_eq, bl_goto, bk_31_33, tn_33, bl_c0, bk_31_34, tn_34, bl_ri, bl_rz, bl_rz1, bl_rz0, bk_31_35, tn_35, bl_c40, bk_31_68, tn_68, bk_31_69, tn_69, bk_31_70, tn_70, bl_is3, bf_84_3, bl_iv2, bl_is4, bl_il3, bl_cm1000000005, bl_il4, bk_31_106, tn_106, bf_84_1, bf_84_2, bl_ic_eq, bk_31_124, tn_124, bl_c10000, bk_31_130, tn_130, Option.bind_some, Option.bind_none, Option.toList_some, Option.toList_none, List.cons_append, List.nil_append, not_false_eq_true, not_true_eq_false, nI_10, nI_00, bI_0, bI_n0, if_true, if_false, true_and, and_true, and_false, false_and, Classical.not_not, ↓reduceIte, eq_self, Nat.reduceAdd, Nat.reduceMul, bl_nil, z_lt, z_le, z_gt, z_ge, nI_add, nI_mul, nI_sub, L_lt, L_le, L_eq, L_e0, N_ltT, N_ltF, N_leT, N_leF, N_eqT, N_eqF, gs_hit, gs_miss, es, e33, g33, e40, g40, en, em, h91, ncl]
      · rw [if_neg hf9, if_pos rfl]
        obtain ⟨v1, v2, v3⟩ := lfN_sv hk ok hf9
        have v5 := o5 v3
        obtain ⟨u1, e1, R1, F1⟩ := rC_el (X := X) (d := D + 8) (x := lfN B ky s) ht h (by omega)
        have hn4 : s.1 ≠ 4 := by
          intro y
          apply hf9
          unfold lfN
          rw [if_neg (by omega), if_neg (by omega)]
        have ok1 : okT B c (elS (lfN B ky s) s) := ok
        obtain ⟨u2, e2, R2, F2⟩ := rC_step (X := X) (d := D + 7) hc hb ok1 hn4 R1
        refine ⟨u2, ?_, R2, fC_trans F1 F2⟩
        by_cases x1 : s.1 = 2 ∧ s.2.2.1 ≤ s.2.1 + 4
        · have x3 : lfN B ky s = vlN B (s.2.2.1 - s.2.1) s.2.1 0 := by unfold lfN; rw [if_pos x1]
          rw [if_pos x1, ← x3] at en
          have x4 : ¬ nI (lfN B ky s) = -1000000005 := by rw [nn_NONE (by omega)]; exact id
          simp -implicitDefEqProofs (disch := first | (with_reducible first | exact rt_31 | exact na_46 | exact k_82.trans mc_46.symm | exact na_32 | exact k_84.trans mc_32.symm | exact na_33 | exact k_84.trans mc_33.symm | exact na_47 | exact k_82.trans mc_47.symm | exact na_48 | exact k_82.trans mc_48.symm | exact na_52 | exact k_1.trans mc_52.symm | exact na_43 | exact k_82.trans mc_43.symm | exact c1_i | exact c1_r | exact of_eq_false nf_zGC | exact of_eq_false nf_zBA | exact of_eq_false nf_zDA | exact of_eq_false nf_zCA | exact of_eq_false nf_zBC | exact of_eq_false nf_zDC | exact of_eq_false nf_zSC | exact of_eq_false nf_zSP | exact of_eq_false nf_zLC | exact of_eq_false nf_zLB | exact of_eq_false nf_zLS | exact of_eq_false nf_zLP | exact of_eq_false nf_zTR) | omega | exact Nat.le_of_ble_eq_true rfl | ((with_reducible refine nI_ne0 ?_ ?_) <;> omega)) only [bk_31_0, tn_0, bl_al0, bf_84_0, bl_iv1, bl_c33, bl_ic_ne, bl_il2, bl_c8, bl_ic_ge, bl_il1, bl_c1, bl_iadd, bl_iv3, bl_if_eq, bl_goto, bk_31_33, tn_33, bl_c0, bk_31_34, tn_34, bl_ri, bl_rz, bl_rz1, bl_rz0, bk_31_35, tn_35, bl_c40, bk_31_68, tn_68, bk_31_69, tn_69, bk_31_70, tn_70, bl_is3, bf_84_3, bl_iv2, bl_is4, bl_il3, bl_cm1000000005, bl_il4, bk_31_106, tn_106, bf_84_1, bf_84_2, bl_ic_eq, bk_31_124, tn_124, bl_c10000, bk_31_130, tn_130, Option.bind_some, Option.bind_none, Option.toList_some, Option.toList_none, List.cons_append, List.nil_append, not_false_eq_true, not_true_eq_false, nI_10, nI_00, bI_0, bI_n0, if_true, if_false, true_and, and_true, and_false, false_and, Classical.not_not, ↓reduceIte, eq_self, Nat.reduceAdd, Nat.reduceMul, bl_nil, z_lt, z_le, z_gt, z_ge, nI_add, nI_mul, nI_sub, L_lt, L_le, L_eq, L_e0, N_ltT, N_ltF, N_leT, N_leF, N_eqT, N_eqF, gs_hit, gs_miss, es, e33, g33, e40, g40, en, em, h91, h9, ncl, x4, e1, e2]
        · rw [if_neg x1] at en
          by_cases x2 : s.1 = 1 ∧ s.2.2.1 = s.2.1 + 1
          · by_cases x3 : idN ky (B s.2.1) < 3
            · rw [if_pos x2, if_pos x3] at em
              have x5 : lfN B ky s = 10000 + idN ky (B s.2.1) := by unfold lfN; rw [if_neg x1, if_pos x2, if_pos x3]
              have x4 : ¬ nI (idN ky (B s.2.1)) = -1000000005 := by rw [nn_NONE (by omega)]; exact id
              rw [x5] at e1
              simp -implicitDefEqProofs (disch := first | (with_reducible first | exact rt_31 | exact na_46 | exact k_82.trans mc_46.symm | exact na_32 | exact k_84.trans mc_32.symm | exact na_33 | exact k_84.trans mc_33.symm | exact na_47 | exact k_82.trans mc_47.symm | exact na_48 | exact k_82.trans mc_48.symm | exact na_52 | exact k_1.trans mc_52.symm | exact na_43 | exact k_82.trans mc_43.symm | exact c1_i | exact c1_r | exact of_eq_false nf_zGC | exact of_eq_false nf_zBA | exact of_eq_false nf_zDA | exact of_eq_false nf_zCA | exact of_eq_false nf_zBC | exact of_eq_false nf_zDC | exact of_eq_false nf_zSC | exact of_eq_false nf_zSP | exact of_eq_false nf_zLC | exact of_eq_false nf_zLB | exact of_eq_false nf_zLS | exact of_eq_false nf_zLP | exact of_eq_false nf_zTR) | omega | exact Nat.le_of_ble_eq_true rfl | ((with_reducible refine nI_ne0 ?_ ?_) <;> omega)) only [bk_31_0, tn_0, bl_al0, bf_84_0, bl_iv1, bl_c33, bl_ic_ne, bl_il2, bl_c8, bl_ic_ge, bl_il1, bl_c1, bl_iadd, bl_iv3, bl_if_eq, bl_goto, bk_31_33, tn_33, bl_c0, bk_31_34, tn_34, bl_ri, bl_rz, bl_rz1, bl_rz0, bk_31_35, tn_35, bl_c40, bk_31_68, tn_68, bk_31_69, tn_69, bk_31_70, tn_70, bl_is3, bf_84_3, bl_iv2, bl_is4, bl_il3, bl_cm1000000005, bl_il4, bk_31_106, tn_106, bf_84_1, bf_84_2, bl_ic_eq, bk_31_124, tn_124, bl_c10000, bk_31_130, tn_130, Option.bind_some, Option.bind_none, Option.toList_some, Option.toList_none, List.cons_append, List.nil_append, not_false_eq_true, not_true_eq_false, nI_10, nI_00, bI_0, bI_n0, if_true, if_false, true_and, and_true, and_false, false_and, Classical.not_not, ↓reduceIte, eq_self, Nat.reduceAdd, Nat.reduceMul, bl_nil, z_lt, z_le, z_gt, z_ge, nI_add, nI_mul, nI_sub, L_lt, L_le, L_eq, L_e0, N_ltT, N_ltF, N_leT, N_leF, N_eqT, N_eqF, gs_hit, gs_miss, es, e33, g33, e40, g40, en, em, h91, h9, ncl, x4, e1, e2]
            · exfalso
              apply hf9
              unfold lfN
              rw [if_neg x1, if_pos x2, if_neg x3]
          · exfalso
            apply hf9
            unfold lfN
            rw [if_neg x1, if_neg x2]
theorem c_loop {lv p q D most : Nat} (hk : ky < 3) (hc : c ≤ 96) (ht : t < 15) (hb : ∀ k, B k < 256) (hL : lvR X B c t ky f) (hlv : lv < 5) (hp : p ≤ 8) (hq : q ≤ 8) (hm : most ≤ 96) (hf : 7 * ((8 - p) + (8 - q)) + (5 - lv) + 1 ≤ f + 1) (hD : 9 * (8 - p) + 2 * (8 - q) + (6 - lv) + 10 ≤ D + 10) : ∀ (k i : Nat) (s : pS) (u : gt_M) (v6 : Value), i + k = most → okT B c s → rC B c t ky u s → s.2.2.2.1.length ≤ s.2.1 → ∃ u', gm_ev X (D + 10) 29 42 [.ref 84, .int (nI lv), .int (nI p), .int (nI q), .int (nI most), .int (nI i), v6] [] (gt_h u) = some (some (.int (if (pLp B c (pG B c ky f (lv + 1) p q) lv k s).1 = true then nI 1 else nI 0)), gt_h u') ∧ rC B c t ky u' (pLp B c (pG B c ky f (lv + 1) p q) lv k s).2 ∧ fC t u u' := by
  intro k
  induction k with
  | zero =>
    intro i s u v6 hi ok h hl
    refine ⟨u, ?_, h, fC_refl⟩
    rw [bk_29_42, pLp, if_pos rfl]
    simp -implicitDefEqProofs (disch := first | (with_reducible first | exact rt_29 | exact na_31 | exact k_84.trans mc_31.symm | exact na_29 | exact k_84.trans mc_29.symm | exact na_46 | exact k_82.trans mc_46.symm | exact na_30 | exact na_43 | exact k_82.trans mc_43.symm | exact na_53 | exact k_1.trans mc_53.symm | exact c1_i | exact c1_r | exact of_eq_false nf_zGC | exact of_eq_false nf_zBA | exact of_eq_false nf_zDA | exact of_eq_false nf_zCA | exact of_eq_false nf_zBC | exact of_eq_false nf_zDC | exact of_eq_false nf_zSC | exact of_eq_false nf_zSP | exact of_eq_false nf_zLC | exact of_eq_false nf_zLB | exact of_eq_false nf_zLS | exact of_eq_false nf_zLP | exact of_eq_false nf_zTR) | omega | exact Nat.le_of_ble_eq_true rfl | ((with_reducible refine nI_ne0 ?_ ?_) <;> omega)) only [bk_29_0, tn_0, bl_il1, bl_c5, bl_ic_lt, bl_al0, bl_il2, bl_il3, bl_iv3, bl_ri, bl_rz, bl_rz1, bl_rz0, bk_29_12, tn_12, bl_c1, bl_iadd, bl_iv4, bl_if_ne, bl_c0, bk_29_26, tn_26, bl_c2, bl_ic_ne, bl_goto, bk_29_35, tn_35, bl_c96, bk_29_37, tn_37, bl_is4, bl_is5, tn_42, bl_il5, bl_il4, bl_ic_ge, bf_84_0, bl_iv1, bl_is_1, bl_is6, bk_29_93, tn_93, bf_84_1, bf_84_2, bl_c20000, bl_il6, bl_in5_1, bk_29_116, tn_116, Option.bind_some, Option.bind_none, Option.toList_some, Option.toList_none, List.cons_append, List.nil_append, not_false_eq_true, not_true_eq_false, nI_10, nI_00, bI_0, bI_n0, if_true, if_false, true_and, and_true, and_false, false_and, Classical.not_not, ↓reduceIte, eq_self, Nat.reduceAdd, Nat.reduceMul, bl_nil, z_lt, z_le, z_gt, z_ge, nI_add, nI_mul, nI_sub, L_lt, L_le, L_eq, L_e0, N_ltT, N_ltF, N_leT, N_leF, N_eqT, N_eqF, gs_hit, gs_miss]
  | succ k ih =>
    intro i s u v6 hi ok h hl
    have es := rC_sign (X := X) (d := D + 9) hc ok h
    have el := c_lvI (X := X) (d := D + 9) (h := gt_h u) (s := s) hb
    have hlo : lvO (sgS B s) ≤ 5 := by
      unfold lvO
      (repeat' split) <;> omega
    rw [pLp]
    by_cases hg : lvO (sgS B s) = lv
    · rw [if_pos hg]
      obtain ⟨z1, z2, z3⟩ := lv_op (ky := ky) hg hlv
      have h3 := sg_3 (B := B) (s := s) z3
      have hsg := sgI_nI (B := B) h3
      rw [hsg] at es el
      obtain ⟨u1, e1, R1, F1⟩ := rC_step (X := X) (d := D + 7) hc hb ok (by omega) h
      obtain ⟨n1, n2⟩ := okT_nx (B := B) (c := c) (s := s) ok.2.2.1
      have n3 := ok.2.2.2.1 h3
      have hl1 : (nxS B c s).2.2.2.1.length + 1 ≤ (nxS B c s).2.1 := by
        have : (nxS B c s).2.2.2.1 = s.2.2.2.1 := rfl
        rw [this]; omega
      obtain ⟨u2, e2, R2, F2⟩ := hL (lv + 1) p q (nxS B c s) u1 (D + 9) (by omega) hp hq (by omega) (by omega) n1 R1 (by omega)
      obtain ⟨q1, q2, q3⟩ := pG_ok hk f (lv + 1) p q (nxS B c s) n1
      generalize hr0 : pG B c ky f (lv + 1) p q (nxS B c s) = r at *
      have f1 := R2.2.2.2.2.2.1
      by_cases hr : r.1 = true
      · rw [if_pos hr] at e2 ⊢
        obtain ⟨r0, l2, r1, r2, r3, r4⟩ := q3 hr
        have hl2 : r.2.2.2.2.1.length + 1 ≤ r.2.2.1 := by
          rw [r1, List.length_append]
          omega
        obtain ⟨u3, e3, R3, F3⟩ := rC_em (X := X) (d := D + 9) (x := 20000 + sgS B s) ht R2 (ok_len r0 hc hl2)
        obtain ⟨u', e, R, F⟩ := ih (i + 1) (emS (20000 + sgS B s) r.2) u3 (.int (nI (sgS B s))) (by omega) r0 R3 (by
          show (r.2.2.2.2.1 ++ [20000 + sgS B s]).length ≤ r.2.2.1
          rw [List.length_append, List.length_singleton]
          exact hl2)
        refine ⟨u', ?_, R, fC_trans F1 (fC_trans F2 (fC_trans F3 F))⟩
        rw [← e, bk_29_42]
        simp -implicitDefEqProofs (disch := first | (with_reducible first | exact rt_29 | exact na_31 | exact k_84.trans mc_31.symm | exact na_29 | exact k_84.trans mc_29.symm | exact na_46 | exact k_82.trans mc_46.symm | exact na_30 | exact na_43 | exact k_82.trans mc_43.symm | exact na_53 | exact k_1.trans mc_53.symm | exact c1_i | exact c1_r | exact of_eq_false nf_zGC | exact of_eq_false nf_zBA | exact of_eq_false nf_zDA | exact of_eq_false nf_zCA | exact of_eq_false nf_zBC | exact of_eq_false nf_zDC | exact of_eq_false nf_zSC | exact of_eq_false nf_zSP | exact of_eq_false nf_zLC | exact of_eq_false nf_zLB | exact of_eq_false nf_zLS | exact of_eq_false nf_zLP | exact of_eq_false nf_zTR) | omega | exact Nat.le_of_ble_eq_true rfl | ((with_reducible refine nI_ne0 ?_ ?_) <;> omega)) only [bk_29_0, tn_0, bl_il1, bl_c5, bl_ic_lt, bl_al0, bl_il2, bl_il3, bl_iv3, bl_ri, bl_rz, bl_rz1, bl_rz0, bk_29_12, tn_12, bl_c1, bl_iadd, bl_iv4, bl_if_ne, bl_c0, bk_29_26, tn_26, bl_c2, bl_ic_ne, bl_goto, bk_29_35, tn_35, bl_c96, bk_29_37, tn_37, bl_is4, bl_is5, tn_42, bl_il5, bl_il4, bl_ic_ge, bf_84_0, bl_iv1, bl_is_1, bl_is6, bk_29_93, tn_93, bf_84_1, bf_84_2, bl_c20000, bl_il6, bl_in5_1, bk_29_116, tn_116, Option.bind_some, Option.bind_none, Option.toList_some, Option.toList_none, List.cons_append, List.nil_append, not_false_eq_true, not_true_eq_false, nI_10, nI_00, bI_0, bI_n0, if_true, if_false, true_and, and_true, and_false, false_and, Classical.not_not, ↓reduceIte, eq_self, Nat.reduceAdd, Nat.reduceMul, bl_nil, z_lt, z_le, z_gt, z_ge, nI_add, nI_mul, nI_sub, L_lt, L_le, L_eq, L_e0, N_ltT, N_ltF, N_leT, N_leF, N_eqT, N_eqF, gs_hit, gs_miss, es, el, hg, e1, e2, e3, f1]
      · rw [if_neg hr] at e2 ⊢
        refine ⟨u2, ?_, R2, fC_trans F1 F2⟩
        rw [if_neg (show ¬ (false = true) by decide), bk_29_42]
        simp -implicitDefEqProofs (disch := first | (with_reducible first | exact rt_29 | exact na_31 | exact k_84.trans mc_31.symm | exact na_29 | exact k_84.trans mc_29.symm | exact na_46 | exact k_82.trans mc_46.symm | exact na_30 | exact na_43 | exact k_82.trans mc_43.symm | exact na_53 | exact k_1.trans mc_53.symm | exact c1_i | exact c1_r | exact of_eq_false nf_zGC | exact of_eq_false nf_zBA | exact of_eq_false nf_zDA | exact of_eq_false nf_zCA | exact of_eq_false nf_zBC | exact of_eq_false nf_zDC | exact of_eq_false nf_zSC | exact of_eq_false nf_zSP | exact of_eq_false nf_zLC | exact of_eq_false nf_zLB | exact of_eq_false nf_zLS | exact of_eq_false nf_zLP | exact of_eq_false nf_zTR) | omega | exact Nat.le_of_ble_eq_true rfl | ((with_reducible refine nI_ne0 ?_ ?_) <;> omega)) only [bk_29_0, tn_0, bl_il1, bl_c5, bl_ic_lt, bl_al0, bl_il2, bl_il3, bl_iv3, bl_ri, bl_rz, bl_rz1, bl_rz0, bk_29_12, tn_12, bl_c1, bl_iadd, bl_iv4, bl_if_ne, bl_c0, bk_29_26, tn_26, bl_c2, bl_ic_ne, bl_goto, bk_29_35, tn_35, bl_c96, bk_29_37, tn_37, bl_is4, bl_is5, tn_42, bl_il5, bl_il4, bl_ic_ge, bf_84_0, bl_iv1, bl_is_1, bl_is6, bk_29_93, tn_93, bf_84_1, bf_84_2, bl_c20000, bl_il6, bl_in5_1, bk_29_116, tn_116, Option.bind_some, Option.bind_none, Option.toList_some, Option.toList_none, List.cons_append, List.nil_append, not_false_eq_true, not_true_eq_false, nI_10, nI_00, bI_0, bI_n0, if_true, if_false, true_and, and_true, and_false, false_and, Classical.not_not, ↓reduceIte, eq_self, Nat.reduceAdd, Nat.reduceMul, bl_nil, z_lt, z_le, z_gt, z_ge, nI_add, nI_mul, nI_sub, L_lt, L_le, L_eq, L_e0, N_ltT, N_ltF, N_leT, N_leF, N_eqT, N_eqF, gs_hit, gs_miss, es, el, hg, e1, e2]
    · rw [if_neg hg, if_pos rfl]
      refine ⟨u, ?_, h, fC_refl⟩
      rw [bk_29_42]
      simp -implicitDefEqProofs (disch := first | (with_reducible first | exact rt_29 | exact na_31 | exact k_84.trans mc_31.symm | exact na_29 | exact k_84.trans mc_29.symm | exact na_46 | exact k_82.trans mc_46.symm | exact na_30 | exact na_43 | exact k_82.trans mc_43.symm | exact na_53 | exact k_1.trans mc_53.symm | exact c1_i | exact c1_r | exact of_eq_false nf_zGC | exact of_eq_false nf_zBA | exact of_eq_false nf_zDA | exact of_eq_false nf_zCA | exact of_eq_false nf_zBC | exact of_eq_false nf_zDC | exact of_eq_false nf_zSC | exact of_eq_false nf_zSP | exact of_eq_false nf_zLC | exact of_eq_false nf_zLB | exact of_eq_false nf_zLS | exact of_eq_false nf_zLP | exact of_eq_false nf_zTR) | omega | exact Nat.le_of_ble_eq_true rfl | ((with_reducible refine nI_ne0 ?_ ?_) <;> omega)) only [bk_29_0, tn_0, bl_il1, bl_c5, bl_ic_lt, bl_al0, bl_il2, bl_il3, bl_iv3, bl_ri, bl_rz, bl_rz1, bl_rz0, bk_29_12, tn_12, bl_c1, bl_iadd, bl_iv4, bl_if_ne, bl_c0, bk_29_26, tn_26, bl_c2, bl_ic_ne, bl_goto, bk_29_35, tn_35, bl_c96, bk_29_37, tn_37, bl_is4, bl_is5, tn_42, bl_il5, bl_il4, bl_ic_ge, bf_84_0, bl_iv1, bl_is_1, bl_is6, bk_29_93, tn_93, bf_84_1, bf_84_2, bl_c20000, bl_il6, bl_in5_1, bk_29_116, tn_116, Option.bind_some, Option.bind_none, Option.toList_some, Option.toList_none, List.cons_append, List.nil_append, not_false_eq_true, not_true_eq_false, nI_10, nI_00, bI_0, bI_n0, if_true, if_false, true_and, and_true, and_false, false_and, Classical.not_not, ↓reduceIte, eq_self, Nat.reduceAdd, Nat.reduceMul, bl_nil, z_lt, z_le, z_gt, z_ge, nI_add, nI_mul, nI_sub, L_lt, L_le, L_eq, L_e0, N_ltT, N_ltF, N_leT, N_leF, N_eqT, N_eqF, gs_hit, gs_miss, es, el, hg]
theorem c_lvS (hk : ky < 3) (hc : c ≤ 96) (ht : t < 15) (hb : ∀ k, B k < 256) (hP : pcR X B c t ky (f + 1)) (hL : lvR X B c t ky f) : lvR X B c t ky (f + 1) := by
  intro lv p q s u D hlv hp hq hf hD ok h hl
  obtain ⟨D, rfl⟩ : ∃ D', D = D' + 10 := ⟨D - 10, by omega⟩
  by_cases h5 : lv = 5
  · subst h5
    obtain ⟨u', e, R, F⟩ := hP p q s u (D + 9) hp hq (by omega) (by omega) ok h hl
    refine ⟨u', ?_, R, F⟩
    rw [cl_29]
    by_cases hr : (pG B c ky (f + 1) 5 p q s).1 = true
    · rw [if_pos hr] at e ⊢
      simp -implicitDefEqProofs (disch := first | (with_reducible first | exact rt_29 | exact na_31 | exact k_84.trans mc_31.symm | exact na_29 | exact k_84.trans mc_29.symm | exact na_46 | exact k_82.trans mc_46.symm | exact na_30 | exact na_43 | exact k_82.trans mc_43.symm | exact na_53 | exact k_1.trans mc_53.symm | exact c1_i | exact c1_r | exact of_eq_false nf_zGC | exact of_eq_false nf_zBA | exact of_eq_false nf_zDA | exact of_eq_false nf_zCA | exact of_eq_false nf_zBC | exact of_eq_false nf_zDC | exact of_eq_false nf_zSC | exact of_eq_false nf_zSP | exact of_eq_false nf_zLC | exact of_eq_false nf_zLB | exact of_eq_false nf_zLS | exact of_eq_false nf_zLP | exact of_eq_false nf_zTR) | omega | exact Nat.le_of_ble_eq_true rfl | ((with_reducible refine nI_ne0 ?_ ?_) <;> omega)) only [bk_29_0, tn_0, bl_il1, bl_c5, bl_ic_lt, bl_al0, bl_il2, bl_il3, bl_iv3, bl_ri, bl_rz, bl_rz1, bl_rz0, bk_29_12, tn_12, bl_c1, bl_iadd, bl_iv4, bl_if_ne, bl_c0, bk_29_26, tn_26, bl_c2, bl_ic_ne, bl_goto, bk_29_35, tn_35, bl_c96, bk_29_37, tn_37, bl_is4, bl_is5, tn_42, bl_il5, bl_il4, bl_ic_ge, bf_84_0, bl_iv1, bl_is_1, bl_is6, bk_29_93, tn_93, bf_84_1, bf_84_2, bl_c20000, bl_il6, bl_in5_1, bk_29_116, tn_116, Option.bind_some, Option.bind_none, Option.toList_some, Option.toList_none, List.cons_append, List.nil_append, not_false_eq_true, not_true_eq_false, nI_10, nI_00, bI_0, bI_n0, if_true, if_false, true_and, and_true, and_false, false_and, Classical.not_not, ↓reduceIte, eq_self, Nat.reduceAdd, Nat.reduceMul, bl_nil, z_lt, z_le, z_gt, z_ge, nI_add, nI_mul, nI_sub, L_lt, L_le, L_eq, L_e0, N_ltT, N_ltF, N_leT, N_leF, N_eqT, N_eqF, gs_hit, gs_miss, e]
    · rw [if_neg hr] at e ⊢
      simp -implicitDefEqProofs (disch := first | (with_reducible first | exact rt_29 | exact na_31 | exact k_84.trans mc_31.symm | exact na_29 | exact k_84.trans mc_29.symm | exact na_46 | exact k_82.trans mc_46.symm | exact na_30 | exact na_43 | exact k_82.trans mc_43.symm | exact na_53 | exact k_1.trans mc_53.symm | exact c1_i | exact c1_r | exact of_eq_false nf_zGC | exact of_eq_false nf_zBA | exact of_eq_false nf_zDA | exact of_eq_false nf_zCA | exact of_eq_false nf_zBC | exact of_eq_false nf_zDC | exact of_eq_false nf_zSC | exact of_eq_false nf_zSP | exact of_eq_false nf_zLC | exact of_eq_false nf_zLB | exact of_eq_false nf_zLS | exact of_eq_false nf_zLP | exact of_eq_false nf_zTR) | omega | exact Nat.le_of_ble_eq_true rfl | ((with_reducible refine nI_ne0 ?_ ?_) <;> omega)) only [bk_29_0, tn_0, bl_il1, bl_c5, bl_ic_lt, bl_al0, bl_il2, bl_il3, bl_iv3, bl_ri, bl_rz, bl_rz1, bl_rz0, bk_29_12, tn_12, bl_c1, bl_iadd, bl_iv4, bl_if_ne, bl_c0, bk_29_26, tn_26, bl_c2, bl_ic_ne, bl_goto, bk_29_35, tn_35, bl_c96, bk_29_37, tn_37, bl_is4, bl_is5, tn_42, bl_il5, bl_il4, bl_ic_ge, bf_84_0, bl_iv1, bl_is_1, bl_is6, bk_29_93, tn_93, bf_84_1, bf_84_2, bl_c20000, bl_il6, bl_in5_1, bk_29_116, tn_116, Option.bind_some, Option.bind_none, Option.toList_some, Option.toList_none, List.cons_append, List.nil_append, not_false_eq_true, not_true_eq_false, nI_10, nI_00, bI_0, bI_n0, if_true, if_false, true_and, and_true, and_false, false_and, Classical.not_not, ↓reduceIte, eq_self, Nat.reduceAdd, Nat.reduceMul, bl_nil, z_lt, z_le, z_gt, z_ge, nI_add, nI_mul, nI_sub, L_lt, L_le, L_eq, L_e0, N_ltT, N_ltF, N_leT, N_leF, N_eqT, N_eqF, gs_hit, gs_miss, e]
  · obtain ⟨u1, e1, R1, F1⟩ := hL (lv + 1) p q s u (D + 9) (by omega) hp hq (by omega) (by omega) ok h hl
    obtain ⟨q1, q2, q3⟩ := pG_ok hk f (lv + 1) p q s ok
    rw [pG, if_neg (show ¬ 5 ≤ lv by omega), cl_29]
    by_cases hr : (pG B c ky f (lv + 1) p q s).1 = true
    · obtain ⟨r0, l2, r1, r2, r3, r4⟩ := q3 hr
      rw [if_pos hr] at e1 ⊢
      have hl2 : (pG B c ky f (lv + 1) p q s).2.2.2.2.1.length ≤ (pG B c ky f (lv + 1) p q s).2.2.1 := by
        rw [r1, List.length_append]
        omega
      by_cases h2 : lv = 2
      · subst h2
        obtain ⟨u', e, R, F⟩ := c_loop (X := X) (lv := 2) (p := p) (q := q) (D := D) (most := 1) hk hc ht hb hL (by omega) hp hq (by omega) hf hD 1 0 _ u1 (.retAddr 0) (by omega) r0 R1 hl2
        refine ⟨u', ?_, R, fC_trans F1 F⟩
        rw [if_pos (show (2 : Nat) = 2 from rfl), ← e]
        simp -implicitDefEqProofs (disch := first | (with_reducible first | exact rt_29 | exact na_31 | exact k_84.trans mc_31.symm | exact na_29 | exact k_84.trans mc_29.symm | exact na_46 | exact k_82.trans mc_46.symm | exact na_30 | exact na_43 | exact k_82.trans mc_43.symm | exact na_53 | exact k_1.trans mc_53.symm | exact c1_i | exact c1_r | exact of_eq_false nf_zGC | exact of_eq_false nf_zBA | exact of_eq_false nf_zDA | exact of_eq_false nf_zCA | exact of_eq_false nf_zBC | exact of_eq_false nf_zDC | exact of_eq_false nf_zSC | exact of_eq_false nf_zSP | exact of_eq_false nf_zLC | exact of_eq_false nf_zLB | exact of_eq_false nf_zLS | exact of_eq_false nf_zLP | exact of_eq_false nf_zTR) | omega | exact Nat.le_of_ble_eq_true rfl | ((with_reducible refine nI_ne0 ?_ ?_) <;> omega)) only [bk_29_0, tn_0, bl_il1, bl_c5, bl_ic_lt, bl_al0, bl_il2, bl_il3, bl_iv3, bl_ri, bl_rz, bl_rz1, bl_rz0, bk_29_12, tn_12, bl_c1, bl_iadd, bl_iv4, bl_if_ne, bl_c0, bk_29_26, tn_26, bl_c2, bl_ic_ne, bl_goto, bk_29_35, tn_35, bl_c96, bk_29_37, tn_37, bl_is4, bl_is5, tn_42, bl_il5, bl_il4, bl_ic_ge, bf_84_0, bl_iv1, bl_is_1, bl_is6, bk_29_93, tn_93, bf_84_1, bf_84_2, bl_c20000, bl_il6, bl_in5_1, bk_29_116, tn_116, Option.bind_some, Option.bind_none, Option.toList_some, Option.toList_none, List.cons_append, List.nil_append, not_false_eq_true, not_true_eq_false, nI_10, nI_00, bI_0, bI_n0, if_true, if_false, true_and, and_true, and_false, false_and, Classical.not_not, ↓reduceIte, eq_self, Nat.reduceAdd, Nat.reduceMul, bl_nil, z_lt, z_le, z_gt, z_ge, nI_add, nI_mul, nI_sub, L_lt, L_le, L_eq, L_e0, N_ltT, N_ltF, N_leT, N_leF, N_eqT, N_eqF, gs_hit, gs_miss, e1]
      · obtain ⟨u', e, R, F⟩ := c_loop (X := X) (lv := lv) (p := p) (q := q) (D := D) (most := 96) hk hc ht hb hL (by omega) hp hq (by omega) hf hD 96 0 _ u1 (.retAddr 0) (by omega) r0 R1 hl2
        rw [if_neg h2]
        refine ⟨u', ?_, R, fC_trans F1 F⟩
        rw [← e]
        simp -implicitDefEqProofs (disch := first | (with_reducible first | exact rt_29 | exact na_31 | exact k_84.trans mc_31.symm | exact na_29 | exact k_84.trans mc_29.symm | exact na_46 | exact k_82.trans mc_46.symm | exact na_30 | exact na_43 | exact k_82.trans mc_43.symm | exact na_53 | exact k_1.trans mc_53.symm | exact c1_i | exact c1_r | exact of_eq_false nf_zGC | exact of_eq_false nf_zBA | exact of_eq_false nf_zDA | exact of_eq_false nf_zCA | exact of_eq_false nf_zBC | exact of_eq_false nf_zDC | exact of_eq_false nf_zSC | exact of_eq_false nf_zSP | exact of_eq_false nf_zLC | exact of_eq_false nf_zLB | exact of_eq_false nf_zLS | exact of_eq_false nf_zLP | exact of_eq_false nf_zTR) | omega | exact Nat.le_of_ble_eq_true rfl | ((with_reducible refine nI_ne0 ?_ ?_) <;> omega)) only [bk_29_0, tn_0, bl_il1, bl_c5, bl_ic_lt, bl_al0, bl_il2, bl_il3, bl_iv3, bl_ri, bl_rz, bl_rz1, bl_rz0, bk_29_12, tn_12, bl_c1, bl_iadd, bl_iv4, bl_if_ne, bl_c0, bk_29_26, tn_26, bl_c2, bl_ic_ne, bl_goto, bk_29_35, tn_35, bl_c96, bk_29_37, tn_37, bl_is4, bl_is5, tn_42, bl_il5, bl_il4, bl_ic_ge, bf_84_0, bl_iv1, bl_is_1, bl_is6, bk_29_93, tn_93, bf_84_1, bf_84_2, bl_c20000, bl_il6, bl_in5_1, bk_29_116, tn_116, Option.bind_some, Option.bind_none, Option.toList_some, Option.toList_none, List.cons_append, List.nil_append, not_false_eq_true, not_true_eq_false, nI_10, nI_00, bI_0, bI_n0, if_true, if_false, true_and, and_true, and_false, false_and, Classical.not_not, ↓reduceIte, eq_self, Nat.reduceAdd, Nat.reduceMul, bl_nil, z_lt, z_le, z_gt, z_ge, nI_add, nI_mul, nI_sub, L_lt, L_le, L_eq, L_e0, N_ltT, N_ltF, N_leT, N_leF, N_eqT, N_eqF, gs_hit, gs_miss, e1, h2]
    · rw [if_neg hr] at e1 ⊢
      refine ⟨u1, ?_, R1, F1⟩
      rw [if_neg (show ¬ (false = true) by decide)]
      simp -implicitDefEqProofs (disch := first | (with_reducible first | exact rt_29 | exact na_31 | exact k_84.trans mc_31.symm | exact na_29 | exact k_84.trans mc_29.symm | exact na_46 | exact k_82.trans mc_46.symm | exact na_30 | exact na_43 | exact k_82.trans mc_43.symm | exact na_53 | exact k_1.trans mc_53.symm | exact c1_i | exact c1_r | exact of_eq_false nf_zGC | exact of_eq_false nf_zBA | exact of_eq_false nf_zDA | exact of_eq_false nf_zCA | exact of_eq_false nf_zBC | exact of_eq_false nf_zDC | exact of_eq_false nf_zSC | exact of_eq_false nf_zSP | exact of_eq_false nf_zLC | exact of_eq_false nf_zLB | exact of_eq_false nf_zLS | exact of_eq_false nf_zLP | exact of_eq_false nf_zTR) | omega | exact Nat.le_of_ble_eq_true rfl | ((with_reducible refine nI_ne0 ?_ ?_) <;> omega)) only [bk_29_0, tn_0, bl_il1, bl_c5, bl_ic_lt, bl_al0, bl_il2, bl_il3, bl_iv3, bl_ri, bl_rz, bl_rz1, bl_rz0, bk_29_12, tn_12, bl_c1, bl_iadd, bl_iv4, bl_if_ne, bl_c0, bk_29_26, tn_26, bl_c2, bl_ic_ne, bl_goto, bk_29_35, tn_35, bl_c96, bk_29_37, tn_37, bl_is4, bl_is5, tn_42, bl_il5, bl_il4, bl_ic_ge, bf_84_0, bl_iv1, bl_is_1, bl_is6, bk_29_93, tn_93, bf_84_1, bf_84_2, bl_c20000, bl_il6, bl_in5_1, bk_29_116, tn_116, Option.bind_some, Option.bind_none, Option.toList_some, Option.toList_none, List.cons_append, List.nil_append, not_false_eq_true, not_true_eq_false, nI_10, nI_00, bI_0, bI_n0, if_true, if_false, true_and, and_true, and_false, false_and, Classical.not_not, ↓reduceIte, eq_self, Nat.reduceAdd, Nat.reduceMul, bl_nil, z_lt, z_le, z_gt, z_ge, nI_add, nI_mul, nI_sub, L_lt, L_le, L_eq, L_e0, N_ltT, N_ltF, N_leT, N_leF, N_eqT, N_eqF, gs_hit, gs_miss, e1]
theorem c_all (hk : ky < 3) (hc : c ≤ 96) (ht : t < 15) (hb : ∀ k, B k < 256) : ∀ f, pcR X B c t ky f ∧ lvR X B c t ky f := by
  intro f
  induction f with
  | zero => exact ⟨fun p q s u D _ _ hf => by omega, fun lv p q s u D _ _ _ hf => by omega⟩
  | succ f ih =>
    have h1 := c_pcS hk hc ht hb ih.1 ih.2
    exact ⟨h1, c_lvS hk hc ht hb h1 ih.2⟩
end C34
